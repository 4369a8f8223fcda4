/-! THE CLASS'S READER -/
abbrev cRe : Nat := 2
/-- the reader at b, which tells into t: the text T of n signs, at p, wrong wr, op that wait -/
def isR (h : am_H) (b t : Nat) (T : Nat → Int) (n p : Nat) (wr : Int) (wt : Nat → Int) (op : Nat) : Prop := h[b]? = some (.inr (cRe, [.ref (b + 1), .int (iI n), .int (iI p), .int (iI wr), .ref t, .ref (b + 2), .int (iI op)])) ∧ h[b + 1]? = some (am_ia 400 T) ∧ h[b + 2]? = some (am_ia 5 wt)
def PW (h0 : am_H) (b t : Nat) (T : Nat → Int) (n : Nat) (h : am_H) (m : Tm) (p : Nat) (wr : Int) (wt : Nat → Int) (op : Nat) : Prop :=
  (frI [(b, b + 2), (t, t + 5)] h0 h) ∧
  (isT h t m) ∧
  (isR h b t T n p wr wt op) ∧
  (t + 5 < b ∨ b + 2 < t)
theorem PW.fr {h0 : am_H} {b t : Nat} {T : Nat → Int} {n : Nat} {h : am_H} {m : Tm} {p : Nat} {wr : Int} {wt : Nat → Int} {op : Nat} (zz : PW h0 b t T n h m p wr wt op) : frI [(b, b + 2), (t, t + 5)] h0 h := zz.1
theorem PW.tm {h0 : am_H} {b t : Nat} {T : Nat → Int} {n : Nat} {h : am_H} {m : Tm} {p : Nat} {wr : Int} {wt : Nat → Int} {op : Nat} (zz : PW h0 b t T n h m p wr wt op) : isT h t m := zz.2.1
theorem PW.rd {h0 : am_H} {b t : Nat} {T : Nat → Int} {n : Nat} {h : am_H} {m : Tm} {p : Nat} {wr : Int} {wt : Nat → Int} {op : Nat} (zz : PW h0 b t T n h m p wr wt op) : isR h b t T n p wr wt op := zz.2.2.1
theorem PW.sep {h0 : am_H} {b t : Nat} {T : Nat → Int} {n : Nat} {h : am_H} {m : Tm} {p : Nat} {wr : Int} {wt : Nat → Int} {op : Nat} (zz : PW h0 b t T n h m p wr wt op) : t + 5 < b ∨ b + 2 < t := zz.2.2.2
def okS (T : Nat → Int) (n : Nat) : Prop := n ≤ 400 ∧ ∀ j, j < n → 32 ≤ T j ∧ T j ≤ 126
theorem eqI {a b : Int} (h : a = b) : some (Value.int (iI a)) = some (Value.int (iI b)) := by rw [h]
theorem eqL {a b : Int} (h : a = b) : some (Value.long (lI a)) = some (Value.long (lI b)) := by rw [h]
section RDR
variable {X : Nat × (Nat → Int32)} {h0 h h' : am_H} {b t n p op : Nat} {T wt : Nat → Int} {m : Tm} {wr : Int}
theorem frI_setM {L : List (Nat × Nat)} {a : Nat} {c : va_E} (hh : ∃ q ∈ L, q.1 ≤ a ∧ a ≤ q.2) : frI L h (h.set a c) := ⟨by simp, fun i hi => am_set_n (by obtain ⟨q, hq, h1, h2⟩ := hh; have := hi q hq; omega)⟩
theorem PW.r0 (w : PW h0 b t T n h m p wr wt op) (p' : Nat) (wr' : Int) (op' : Nat) : PW h0 b t T n (h.set b (.inr (cRe, [.ref (b + 1), .int (iI n), .int (iI p'), .int (iI wr'), .ref t, .ref (b + 2), .int (iI op')]))) m p' wr' wt op' := by
  obtain ⟨fr, tm, ⟨c0, c1, c2⟩, sep⟩ := w
  exact ⟨frI_tr fr (frI_setM ⟨(b, b + 2), by simp, by simp, by simp⟩), tm.same (same_set (lo := t) (up := t + 5) (by omega)) ⟨Nat.le_refl _, Nat.le_refl _⟩, ⟨am_set_s c0, by rw [am_set_n (by omega)]; exact c1, by rw [am_set_n (by omega)]; exact c2⟩, sep⟩
theorem PW.r2 (w : PW h0 b t T n h m p wr wt op) (wt' : Nat → Int) : PW h0 b t T n (h.set (b + 2) (am_ia 5 wt')) m p wr wt' op := by
  obtain ⟨fr, tm, ⟨c0, c1, c2⟩, sep⟩ := w
  exact ⟨frI_tr fr (frI_setM ⟨(b, b + 2), by simp, by simp, by simp⟩), tm.same (same_set (lo := t) (up := t + 5) (by omega)) ⟨Nat.le_refl _, Nat.le_refl _⟩, ⟨by rw [am_set_n (by omega)]; exact c0, by rw [am_set_n (by omega)]; exact c1, am_set_s c2⟩, sep⟩
theorem PW.to (w : PW h0 b t T n h m p wr wt op) {m' : Tm} (tm' : isT h' t m') (f : frI [(t, t + 5)] h h') : PW h0 b t T n h' m' p wr wt op := by
  obtain ⟨fr, tm, ⟨c0, c1, c2⟩, sep⟩ := w
  have s : same b (b + 2) h h' := f.same (fun q hq => by simp at hq; subst hq; simp only; omega)
  exact ⟨frI_tr fr (frI_wk f (fun q hq => ⟨q, by simp at hq ⊢; exact Or.inr hq, Nat.le_refl _, Nat.le_refl _⟩)), tm', ⟨by rw [s b (by omega) (by omega)]; exact c0, by rw [s (b + 1) (by omega) (by omega)]; exact c1, by rw [s (b + 2) (by omega) (by omega)]; exact c2⟩, sep⟩
theorem wp_isDigit {d : Nat} {c : Int} (hc : -2147483648 ≤ c ∧ c ≤ 2147483647) : am_c X (d + 1) 41 [.int (iI c)] h (fun r h' => r = some (.int (iI (b2 (48 ≤ c ∧ c ≤ 57)))) ∧ h' = h) := by
  refine am_c.of (Nat.le_of_ble_eq_true rfl) ?_
  show am_w _ _ _ (_, [_], _, _) _
  refine wr_iload_n rfl rfl rfl ?_
  refine wr_bipush rfl rfl (by decide) ?_
  refine wr_icmp_lt rfl rfl rfl (by omega) (by omega) (fun c3 => ?_) (fun c3 => ?_)
  ·
    refine wr_iconst rfl rfl ?_
    refine wr_zret rfl rfl (by decide) ?_
    refine ⟨?_, rfl⟩
    first | rw [b2_t (by omega)] | rw [b2_f (by omega)]
  ·
    refine wr_iload_n rfl rfl rfl ?_
    refine wr_bipush rfl rfl (by decide) ?_
    refine wr_icmp_gt rfl rfl rfl (by omega) (by omega) (fun c9 => ?_) (fun c9 => ?_)
    ·
      refine wr_iconst rfl rfl ?_
      refine wr_zret rfl rfl (by decide) ?_
      refine ⟨?_, rfl⟩
      first | rw [b2_t (by omega)] | rw [b2_f (by omega)]
    ·
      refine wr_iconst rfl rfl ?_
      refine wr_goto rfl rfl ?_
      refine wr_zret rfl rfl (by decide) ?_
      refine ⟨?_, rfl⟩
      first | rw [b2_t (by omega)] | rw [b2_f (by omega)]
theorem wp_kindBy {d : Nat} {c : Int} (hc : -2147483648 ≤ c ∧ c ≤ 2147483647) : am_c X (d + 1) 36 [.int (iI c)] h (fun r h' => r = some (.int (iI (kindB c))) ∧ h' = h) := by
  have kc := kindB_cases c
  refine am_c.of (Nat.le_of_ble_eq_true rfl) ?_
  show am_w _ _ _ (_, [_], _, _) _
  refine wr_iload_n rfl rfl rfl ?_
  refine sw_36_1 (by omega) (fun c1 => ?_) (fun c1 => ?_) (fun c1 => ?_) (fun c1 => ?_) (fun c1 => ?_) (fun c1 => ?_) (fun c1_0 c1_1 c1_2 c1_3 c1_4 c1_5 => ?_)
  ·
    refine wr_bipush rfl rfl (by decide) ?_
    refine wr_iret rfl rfl ?_
    exact ⟨eqI (by omega), rfl⟩
  ·
    refine wr_iconst rfl rfl ?_
    refine wr_iret rfl rfl ?_
    exact ⟨eqI (by omega), rfl⟩
  ·
    refine wr_iconst rfl rfl ?_
    refine wr_iret rfl rfl ?_
    exact ⟨eqI (by omega), rfl⟩
  ·
    refine wr_iconst rfl rfl ?_
    refine wr_iret rfl rfl ?_
    exact ⟨eqI (by omega), rfl⟩
  ·
    refine wr_iconst rfl rfl ?_
    refine wr_iret rfl rfl ?_
    exact ⟨eqI (by omega), rfl⟩
  ·
    refine wr_iconst rfl rfl ?_
    refine wr_iret rfl rfl ?_
    exact ⟨eqI (by omega), rfl⟩
  ·
    refine wr_iconst rfl rfl ?_
    refine wr_iret rfl rfl ?_
    exact ⟨eqI (by omega), rfl⟩
theorem wp_condBy {d : Nat} {c : Int} (hc : -2147483648 ≤ c ∧ c ≤ 2147483647) : am_c X (d + 1) 39 [.int (iI c)] h (fun r h' => r = some (.int (iI (condB c))) ∧ h' = h) := by
  have kc := condB_cases c
  refine am_c.of (Nat.le_of_ble_eq_true rfl) ?_
  show am_w _ _ _ (_, [_], _, _) _
  refine wr_iload_n rfl rfl rfl ?_
  refine sw_39_1 (by omega) (fun c1 => ?_) (fun c1 => ?_) (fun c1 => ?_) (fun c1 => ?_) (fun c1_0 c1_1 c1_2 c1_3 => ?_)
  ·
    refine wr_bipush rfl rfl (by decide) ?_
    refine wr_iret rfl rfl ?_
    exact ⟨eqI (by omega), rfl⟩
  ·
    refine wr_bipush rfl rfl (by decide) ?_
    refine wr_iret rfl rfl ?_
    exact ⟨eqI (by omega), rfl⟩
  ·
    refine wr_bipush rfl rfl (by decide) ?_
    refine wr_iret rfl rfl ?_
    exact ⟨eqI (by omega), rfl⟩
  ·
    refine wr_bipush rfl rfl (by decide) ?_
    refine wr_iret rfl rfl ?_
    exact ⟨eqI (by omega), rfl⟩
  ·
    refine wr_iconst rfl rfl ?_
    refine wr_iret rfl rfl ?_
    exact ⟨eqI (by omega), rfl⟩
theorem sgA_in {e : Int} (o : okS T n) (he : -1 ≤ e ∧ e ≤ 0) : -1 ≤ sgA T n e p ∧ sgA T n e p ≤ 126 := by
  unfold sgA
  split
  · have := o.2 p (by assumption); omega
  · omega
theorem sgA_01 {c : Int} (hc : 0 < c) : sgA T n (-1) p = c ↔ sgA T n 0 p = c := by
  unfold sgA
  split
  · exact Iff.rfl
  · omega
theorem kindB_01 : kindB (sgA T n (-1) p) = kindB (sgA T n 0 p) := by
  unfold sgA
  split <;> rfl
theorem condB_01 : condB (sgA T n (-1) p) = condB (sgA T n 0 p) := by
  unfold sgA
  split <;> rfl
theorem wp_rsign {d : Nat} (w : PW h0 b t T n h m p wr wt op) (hn : n ≤ 400) (hp : p ≤ 1000) : am_c X (d + 1) 23 [.ref b] h (fun r h' => r = some (.int (iI (sgA T n (-1) p))) ∧ h' = h) := by
  obtain ⟨c0, c1, c2⟩ := id w.rd
  have c3 := w.tm.1
  refine am_c.of (Nat.le_of_ble_eq_true rfl) ?_
  show am_w _ _ _ (_, [_], _, _) _
  refine wr_aload_n rfl rfl rfl ?_
  refine wr_get (ci := 2) (f := 2) rfl rfl rfl (by assumption) rfl ?_
  refine wr_if_lt rfl rfl rfl (by omega) (fun c4 => ?_) (fun c4 => ?_)
  ·
    refine wr_iconst rfl rfl ?_
    refine wr_iret rfl rfl ?_
    first | (exfalso; omega) | exact ⟨by rw [sgA_at (by omega)], rfl⟩ | exact ⟨by rw [sgA_out (by omega)], rfl⟩
  ·
    refine wr_aload_n rfl rfl rfl ?_
    refine wr_get (ci := 2) (f := 2) rfl rfl rfl (by assumption) rfl ?_
    refine wr_aload_n rfl rfl rfl ?_
    refine wr_get (ci := 2) (f := 1) rfl rfl rfl (by assumption) rfl ?_
    refine wr_icmp_ge rfl rfl rfl (by omega) (by omega) (fun c15 => ?_) (fun c15 => ?_)
    ·
      refine wr_iconst rfl rfl ?_
      refine wr_iret rfl rfl ?_
      first | (exfalso; omega) | exact ⟨by rw [sgA_at (by omega)], rfl⟩ | exact ⟨by rw [sgA_out (by omega)], rfl⟩
    ·
      refine wr_aload_n rfl rfl rfl ?_
      refine wr_get (ci := 2) (f := 2) rfl rfl rfl (by assumption) rfl ?_
      refine wr_aload_n rfl rfl rfl ?_
      refine wr_get (ci := 2) (f := 0) rfl rfl rfl (by assumption) rfl ?_
      refine wr_alen rfl rfl (by assumption) (by decide) ?_
      refine wr_icmp_ge rfl rfl rfl (by omega) (by omega) (fun c27 => ?_) (fun c27 => ?_)
      ·
        refine wr_iconst rfl rfl ?_
        refine wr_iret rfl rfl ?_
        first | (exfalso; omega) | exact ⟨by rw [sgA_at (by omega)], rfl⟩ | exact ⟨by rw [sgA_out (by omega)], rfl⟩
      ·
        refine wr_aload_n rfl rfl rfl ?_
        refine wr_get (ci := 2) (f := 0) rfl rfl rfl (by assumption) rfl ?_
        refine wr_aload_n rfl rfl rfl ?_
        refine wr_get (ci := 2) (f := 2) rfl rfl rfl (by assumption) rfl ?_
        refine wr_iald rfl rfl (by assumption) (by omega) (by omega) ?_
        rw [Int.toNat_natCast]
        refine wr_goto rfl rfl ?_
        refine wr_iret rfl rfl ?_
        first | (exfalso; omega) | exact ⟨by rw [sgA_at (by omega)], rfl⟩ | exact ⟨by rw [sgA_out (by omega)], rfl⟩
theorem wp_skip {d : Nat} (w : PW h0 b t T n h m p 0 wt op) (o : okS T n) (hp : p ≤ n) : am_c X (d + 1) 22 [.ref b] h (fun r h' => r = none ∧ PW h0 b t T n h' m (skp T n p) 0 wt op) := by
  have hn := o.1
  have L : ∀ (k p : Nat) (h : am_H), p + k = n → PW h0 b t T n h m p 0 wt op → am_w X d 22 (0, [.ref b], [], h) (fun r h' => r = none ∧ PW h0 b t T n h' m (skp T n p) 0 wt op) := by
    intro k
    induction k with
    | zero =>
      intro p h hk w
      obtain ⟨c0, c1, c2⟩ := id w.rd
      have c3 := w.tm.1
      refine wr_aload_n rfl rfl rfl ?_
      refine wr_get (ci := 2) (f := 3) rfl rfl rfl (by assumption) rfl ?_
      refine wr_if_ne rfl rfl rfl (by omega) (fun c4 => ?_) (fun c4 => ?_)
      · exfalso; omega
      ·
        refine wr_aload_n rfl rfl rfl ?_
        refine wr_get (ci := 2) (f := 2) rfl rfl rfl (by assumption) rfl ?_
        refine wr_aload_n rfl rfl rfl ?_
        refine wr_get (ci := 2) (f := 1) rfl rfl rfl (by assumption) rfl ?_
        refine wr_icmp_ge rfl rfl rfl (by omega) (by omega) (fun c15 => ?_) (fun c15 => ?_)
        ·
          refine wr_vret rfl rfl ?_
          rw [skp_end (by omega)]
          exact ⟨rfl, w⟩
        · exfalso; omega
    | succ k ih =>
      intro p h hk w
      obtain ⟨c0, c1, c2⟩ := id w.rd
      have c3 := w.tm.1
      have hT := o.2 p (by omega)
      refine wr_aload_n rfl rfl rfl ?_
      refine wr_get (ci := 2) (f := 3) rfl rfl rfl (by assumption) rfl ?_
      refine wr_if_ne rfl rfl rfl (by omega) (fun c4 => ?_) (fun c4 => ?_)
      · exfalso; omega
      ·
        refine wr_aload_n rfl rfl rfl ?_
        refine wr_get (ci := 2) (f := 2) rfl rfl rfl (by assumption) rfl ?_
        refine wr_aload_n rfl rfl rfl ?_
        refine wr_get (ci := 2) (f := 1) rfl rfl rfl (by assumption) rfl ?_
        refine wr_icmp_ge rfl rfl rfl (by omega) (by omega) (fun c15 => ?_) (fun c15 => ?_)
        · exfalso; omega
        ·
          refine wr_aload_n rfl rfl rfl ?_
          refine wr_get (ci := 2) (f := 0) rfl rfl rfl (by assumption) rfl ?_
          refine wr_aload_n rfl rfl rfl ?_
          refine wr_get (ci := 2) (f := 2) rfl rfl rfl (by assumption) rfl ?_
          refine wr_iald rfl rfl (by assumption) (by omega) (by omega) ?_
          rw [Int.toNat_natCast]
          refine wr_bipush rfl rfl (by decide) ?_
          refine wr_icmp_ne rfl rfl rfl (by omega) (by omega) (fun c29 => ?_) (fun c29 => ?_)
          ·
            refine wr_vret rfl rfl ?_
            rw [skp_stay (by omega)]
            exact ⟨rfl, w⟩
          ·
            refine wr_aload_n rfl rfl rfl ?_
            refine wr_dup rfl rfl ?_
            refine wr_get (ci := 2) (f := 2) rfl rfl rfl (by assumption) rfl ?_
            refine wr_iconst rfl rfl ?_
            refine wr_iadd rfl rfl ?_
            refine wr_putI (ci := 2) (f := 2) (fs' := [_, _, _, _, _, _, _]) rfl rfl rfl (by assumption) rfl rfl rfl (fun h1 e1 => ?_)
            have w := e1 ▸ w.r0 (p + 1) 0 op
            refine wr_goto rfl rfl ?_
            rw [← skp_step (by omega) (by omega)]
            exact ih (p + 1) h1 (by omega) w
  refine am_c.of (Nat.le_of_ble_eq_true rfl) ?_
  show am_w _ _ _ (_, [_], _, _) _
  exact L (n - p) p h (by omega) w
theorem wp_skip1 {d : Nat} (w : PW h0 b t T n h m p 1 wt op) : am_c X (d + 1) 22 [.ref b] h (fun r h' => r = none ∧ PW h0 b t T n h' m p 1 wt op) := by
  obtain ⟨c0, c1, c2⟩ := id w.rd
  have c3 := w.tm.1
  refine am_c.of (Nat.le_of_ble_eq_true rfl) ?_
  show am_w _ _ _ (_, [_], _, _) _
  refine wr_aload_n rfl rfl rfl ?_
  refine wr_get (ci := 2) (f := 3) rfl rfl rfl (by assumption) rfl ?_
  refine wr_if_ne rfl rfl rfl (by omega) (fun c4 => ?_) (fun c4 => ?_)
  ·
    refine wr_vret rfl rfl ?_
    exact ⟨rfl, w⟩
  · exfalso; omega
/-- what number answers -/
def numQ (h0 : am_H) (b t : Nat) (T : Nat → Int) (n : Nat) (m : Tm) (wt : Nat → Int) (op : Nat) (P : PR Int) (r : Option Value) (h' : am_H) : Prop := match P with
  | .error q => (∃ v : Int, r = some (.int (iI v)) ∧ -1000000 ≤ v ∧ v ≤ 1000000) ∧ PW h0 b t T n h' m q 1 wt op
  | .ok (v, q) => r = some (.int (iI v)) ∧ PW h0 b t T n h' m q 0 wt op
theorem wp_rnum {d : Nat} {least : Int} (w : PW h0 b t T n h m p 0 wt op) (o : okS T n) (hp : p ≤ n) (hl : least = 0 ∨ least = 1) : am_c X (d + 2) 40 [.ref b, .int (iI least)] h (numQ h0 b t T n m wt op (pnum T n least p)) := by
  have hn := o.1
  have sk := skp_spec T n p
  have ds := dgE_spec T n (skp T n p)
  unfold pnum
  obtain ⟨s, es⟩ : ∃ s, s = skp T n p := ⟨_, rfl⟩
  rw [← es] at sk ds ⊢
  obtain ⟨e, ee⟩ : ∃ e, e = dgE T n s := ⟨_, rfl⟩
  rw [← ee] at ds ⊢
  obtain ⟨z, ez⟩ : ∃ z, z = sgA T n (-1) s := ⟨_, rfl⟩
  have zin : -1 ≤ z ∧ z ≤ 126 := ez ▸ sgA_in o (by decide)
  have zs : s < n → z = T s := fun q => by rw [ez, sgA_at q]
  have sn : s ≤ n := sk.2.1 hp
  have en : e ≤ n := ds.2.1 sn
  have nvI := nvF_in T s (e - s) (fun j a b => ds.2.2 j a (by omega))
  obtain ⟨V, eV⟩ : ∃ V, V = nvF T (e - s) s 0 := ⟨_, rfl⟩
  have bd : badN T least s e = true ↔ (e < s + 1 ∨ s + 5 < e ∨ (s + 1 < e ∧ T s = 48)) ∨ V < least := by rw [eV]; unfold badN; exact decide_eq_true_iff
  rw [← eV] at nvI ⊢
  have V5 : e ≤ s + 5 → V < 100000 := fun q => by
    have := (show ∀ m : Nat, m < 6 → (10 : Int) ^ m ≤ 100000 by decide) (e - s) (by omega)
    omega
  have J : ∀ h : am_H, PW h0 b t T n h m e 0 wt op → am_w X (d + 1) 40 (80, [.ref b, .int (iI least), .int (iI s), .int (iI z), .int (iI (min V 100000)), am_U, am_U], [], h) (numQ h0 b t T n m wt op (if badN T least s e = true then .error s else .ok (V, e))) := by
    intro h w
    obtain ⟨c0, c1, c2⟩ := id w.rd
    have c3 := w.tm.1
    by_cases c : badN T least s e = true
    · rw [if_pos c]
      rw [bd] at c
      refine wr_aload_n rfl rfl rfl ?_
      refine wr_get (ci := 2) (f := 2) rfl rfl rfl (by assumption) rfl ?_
      refine wr_iload_n rfl rfl rfl ?_
      refine wr_isub rfl rfl ?_
      refine wr_istore (ls' := [_, _, _, _, _, _, _]) rfl rfl (Nat.le_of_ble_eq_true rfl) rfl ?_
      refine wr_iload rfl rfl rfl ?_
      refine wr_iconst rfl rfl ?_
      refine wr_icmp_le rfl rfl rfl (by omega) (by omega) (fun c91 => ?_) (fun c91 => ?_)
      ·
        refine wr_iconst rfl rfl ?_
        refine wr_istore (ls' := [_, _, _, _, _, _, _]) rfl rfl (Nat.le_of_ble_eq_true rfl) rfl ?_
        refine wr_iload rfl rfl rfl ?_
        refine wr_iconst rfl rfl ?_
        refine wr_icmp_lt rfl rfl rfl (by omega) (by omega) (fun c110 => ?_) (fun c110 => ?_)
        ·
          refine wr_aload_n rfl rfl rfl ?_
          refine wr_iconst rfl rfl ?_
          refine wr_putZ (ci := 2) (f := 3) (fs' := [_, _, _, _, _, _, _]) rfl rfl rfl (by assumption) rfl rfl (by decide) rfl (fun h1 e1 => ?_)
          have w := e1 ▸ w.r0 e 1 op
          clear e1
          obtain ⟨c0, c1, c2⟩ := id w.rd
          have c3 := w.tm.1
          refine wr_aload_n rfl rfl rfl ?_
          refine wr_iload_n rfl rfl rfl ?_
          refine wr_putI (ci := 2) (f := 2) (fs' := [_, _, _, _, _, _, _]) rfl rfl rfl (by assumption) rfl rfl rfl (fun h1 e1 => ?_)
          have w := e1 ▸ w.r0 s 1 op
          clear e1
          obtain ⟨c0, c1, c2⟩ := id w.rd
          have c3 := w.tm.1
          refine wr_iload rfl rfl rfl ?_
          refine wr_iret rfl rfl ?_
          first | exact ⟨⟨_, rfl, by omega, by omega⟩, w⟩ | (exfalso; omega)
        ·
          refine wr_iload rfl rfl rfl ?_
          refine wr_iconst rfl rfl ?_
          refine wr_icmp_gt rfl rfl rfl (by omega) (by omega) (fun c116 => ?_) (fun c116 => ?_)
          ·
            refine wr_aload_n rfl rfl rfl ?_
            refine wr_iconst rfl rfl ?_
            refine wr_putZ (ci := 2) (f := 3) (fs' := [_, _, _, _, _, _, _]) rfl rfl rfl (by assumption) rfl rfl (by decide) rfl (fun h1 e1 => ?_)
            have w := e1 ▸ w.r0 e 1 op
            clear e1
            obtain ⟨c0, c1, c2⟩ := id w.rd
            have c3 := w.tm.1
            refine wr_aload_n rfl rfl rfl ?_
            refine wr_iload_n rfl rfl rfl ?_
            refine wr_putI (ci := 2) (f := 2) (fs' := [_, _, _, _, _, _, _]) rfl rfl rfl (by assumption) rfl rfl rfl (fun h1 e1 => ?_)
            have w := e1 ▸ w.r0 s 1 op
            clear e1
            obtain ⟨c0, c1, c2⟩ := id w.rd
            have c3 := w.tm.1
            refine wr_iload rfl rfl rfl ?_
            refine wr_iret rfl rfl ?_
            first | exact ⟨⟨_, rfl, by omega, by omega⟩, w⟩ | (exfalso; omega)
          ·
            refine wr_iload rfl rfl rfl ?_
            refine wr_if_ne rfl rfl rfl (by omega) (fun c121 => ?_) (fun c121 => ?_)
            ·
              refine wr_aload_n rfl rfl rfl ?_
              refine wr_iconst rfl rfl ?_
              refine wr_putZ (ci := 2) (f := 3) (fs' := [_, _, _, _, _, _, _]) rfl rfl rfl (by assumption) rfl rfl (by decide) rfl (fun h1 e1 => ?_)
              have w := e1 ▸ w.r0 e 1 op
              clear e1
              obtain ⟨c0, c1, c2⟩ := id w.rd
              have c3 := w.tm.1
              refine wr_aload_n rfl rfl rfl ?_
              refine wr_iload_n rfl rfl rfl ?_
              refine wr_putI (ci := 2) (f := 2) (fs' := [_, _, _, _, _, _, _]) rfl rfl rfl (by assumption) rfl rfl rfl (fun h1 e1 => ?_)
              have w := e1 ▸ w.r0 s 1 op
              clear e1
              obtain ⟨c0, c1, c2⟩ := id w.rd
              have c3 := w.tm.1
              refine wr_iload rfl rfl rfl ?_
              refine wr_iret rfl rfl ?_
              first | exact ⟨⟨_, rfl, by omega, by omega⟩, w⟩ | (exfalso; omega)
            ·
              refine wr_iload rfl rfl rfl ?_
              refine wr_iload_n rfl rfl rfl ?_
              refine wr_icmp_ge rfl rfl rfl (by omega) (by omega) (fun c127 => ?_) (fun c127 => ?_)
              ·
                refine wr_iload rfl rfl rfl ?_
                refine wr_iret rfl rfl ?_
                first | exact ⟨⟨_, rfl, by omega, by omega⟩, w⟩ | (exfalso; omega)
              ·
                refine wr_aload_n rfl rfl rfl ?_
                refine wr_iconst rfl rfl ?_
                refine wr_putZ (ci := 2) (f := 3) (fs' := [_, _, _, _, _, _, _]) rfl rfl rfl (by assumption) rfl rfl (by decide) rfl (fun h1 e1 => ?_)
                have w := e1 ▸ w.r0 e 1 op
                clear e1
                obtain ⟨c0, c1, c2⟩ := id w.rd
                have c3 := w.tm.1
                refine wr_aload_n rfl rfl rfl ?_
                refine wr_iload_n rfl rfl rfl ?_
                refine wr_putI (ci := 2) (f := 2) (fs' := [_, _, _, _, _, _, _]) rfl rfl rfl (by assumption) rfl rfl rfl (fun h1 e1 => ?_)
                have w := e1 ▸ w.r0 s 1 op
                clear e1
                obtain ⟨c0, c1, c2⟩ := id w.rd
                have c3 := w.tm.1
                refine wr_iload rfl rfl rfl ?_
                refine wr_iret rfl rfl ?_
                first | exact ⟨⟨_, rfl, by omega, by omega⟩, w⟩ | (exfalso; omega)
      ·
        refine wr_iload_n rfl rfl rfl ?_
        refine wr_bipush rfl rfl (by decide) ?_
        refine wr_icmp_ne rfl rfl rfl (by omega) (by omega) (fun c97 => ?_) (fun c97 => ?_)
        ·
          refine wr_iconst rfl rfl ?_
          refine wr_istore (ls' := [_, _, _, _, _, _, _]) rfl rfl (Nat.le_of_ble_eq_true rfl) rfl ?_
          refine wr_iload rfl rfl rfl ?_
          refine wr_iconst rfl rfl ?_
          refine wr_icmp_lt rfl rfl rfl (by omega) (by omega) (fun c110 => ?_) (fun c110 => ?_)
          ·
            refine wr_aload_n rfl rfl rfl ?_
            refine wr_iconst rfl rfl ?_
            refine wr_putZ (ci := 2) (f := 3) (fs' := [_, _, _, _, _, _, _]) rfl rfl rfl (by assumption) rfl rfl (by decide) rfl (fun h1 e1 => ?_)
            have w := e1 ▸ w.r0 e 1 op
            clear e1
            obtain ⟨c0, c1, c2⟩ := id w.rd
            have c3 := w.tm.1
            refine wr_aload_n rfl rfl rfl ?_
            refine wr_iload_n rfl rfl rfl ?_
            refine wr_putI (ci := 2) (f := 2) (fs' := [_, _, _, _, _, _, _]) rfl rfl rfl (by assumption) rfl rfl rfl (fun h1 e1 => ?_)
            have w := e1 ▸ w.r0 s 1 op
            clear e1
            obtain ⟨c0, c1, c2⟩ := id w.rd
            have c3 := w.tm.1
            refine wr_iload rfl rfl rfl ?_
            refine wr_iret rfl rfl ?_
            first | exact ⟨⟨_, rfl, by omega, by omega⟩, w⟩ | (exfalso; omega)
          ·
            refine wr_iload rfl rfl rfl ?_
            refine wr_iconst rfl rfl ?_
            refine wr_icmp_gt rfl rfl rfl (by omega) (by omega) (fun c116 => ?_) (fun c116 => ?_)
            ·
              refine wr_aload_n rfl rfl rfl ?_
              refine wr_iconst rfl rfl ?_
              refine wr_putZ (ci := 2) (f := 3) (fs' := [_, _, _, _, _, _, _]) rfl rfl rfl (by assumption) rfl rfl (by decide) rfl (fun h1 e1 => ?_)
              have w := e1 ▸ w.r0 e 1 op
              clear e1
              obtain ⟨c0, c1, c2⟩ := id w.rd
              have c3 := w.tm.1
              refine wr_aload_n rfl rfl rfl ?_
              refine wr_iload_n rfl rfl rfl ?_
              refine wr_putI (ci := 2) (f := 2) (fs' := [_, _, _, _, _, _, _]) rfl rfl rfl (by assumption) rfl rfl rfl (fun h1 e1 => ?_)
              have w := e1 ▸ w.r0 s 1 op
              clear e1
              obtain ⟨c0, c1, c2⟩ := id w.rd
              have c3 := w.tm.1
              refine wr_iload rfl rfl rfl ?_
              refine wr_iret rfl rfl ?_
              first | exact ⟨⟨_, rfl, by omega, by omega⟩, w⟩ | (exfalso; omega)
            ·
              refine wr_iload rfl rfl rfl ?_
              refine wr_if_ne rfl rfl rfl (by omega) (fun c121 => ?_) (fun c121 => ?_)
              ·
                refine wr_aload_n rfl rfl rfl ?_
                refine wr_iconst rfl rfl ?_
                refine wr_putZ (ci := 2) (f := 3) (fs' := [_, _, _, _, _, _, _]) rfl rfl rfl (by assumption) rfl rfl (by decide) rfl (fun h1 e1 => ?_)
                have w := e1 ▸ w.r0 e 1 op
                clear e1
                obtain ⟨c0, c1, c2⟩ := id w.rd
                have c3 := w.tm.1
                refine wr_aload_n rfl rfl rfl ?_
                refine wr_iload_n rfl rfl rfl ?_
                refine wr_putI (ci := 2) (f := 2) (fs' := [_, _, _, _, _, _, _]) rfl rfl rfl (by assumption) rfl rfl rfl (fun h1 e1 => ?_)
                have w := e1 ▸ w.r0 s 1 op
                clear e1
                obtain ⟨c0, c1, c2⟩ := id w.rd
                have c3 := w.tm.1
                refine wr_iload rfl rfl rfl ?_
                refine wr_iret rfl rfl ?_
                first | exact ⟨⟨_, rfl, by omega, by omega⟩, w⟩ | (exfalso; omega)
              ·
                refine wr_iload rfl rfl rfl ?_
                refine wr_iload_n rfl rfl rfl ?_
                refine wr_icmp_ge rfl rfl rfl (by omega) (by omega) (fun c127 => ?_) (fun c127 => ?_)
                ·
                  refine wr_iload rfl rfl rfl ?_
                  refine wr_iret rfl rfl ?_
                  first | exact ⟨⟨_, rfl, by omega, by omega⟩, w⟩ | (exfalso; omega)
                ·
                  refine wr_aload_n rfl rfl rfl ?_
                  refine wr_iconst rfl rfl ?_
                  refine wr_putZ (ci := 2) (f := 3) (fs' := [_, _, _, _, _, _, _]) rfl rfl rfl (by assumption) rfl rfl (by decide) rfl (fun h1 e1 => ?_)
                  have w := e1 ▸ w.r0 e 1 op
                  clear e1
                  obtain ⟨c0, c1, c2⟩ := id w.rd
                  have c3 := w.tm.1
                  refine wr_aload_n rfl rfl rfl ?_
                  refine wr_iload_n rfl rfl rfl ?_
                  refine wr_putI (ci := 2) (f := 2) (fs' := [_, _, _, _, _, _, _]) rfl rfl rfl (by assumption) rfl rfl rfl (fun h1 e1 => ?_)
                  have w := e1 ▸ w.r0 s 1 op
                  clear e1
                  obtain ⟨c0, c1, c2⟩ := id w.rd
                  have c3 := w.tm.1
                  refine wr_iload rfl rfl rfl ?_
                  refine wr_iret rfl rfl ?_
                  first | exact ⟨⟨_, rfl, by omega, by omega⟩, w⟩ | (exfalso; omega)
        ·
          refine wr_iconst rfl rfl ?_
          refine wr_goto rfl rfl ?_
          refine wr_istore (ls' := [_, _, _, _, _, _, _]) rfl rfl (Nat.le_of_ble_eq_true rfl) rfl ?_
          refine wr_iload rfl rfl rfl ?_
          refine wr_iconst rfl rfl ?_
          refine wr_icmp_lt rfl rfl rfl (by omega) (by omega) (fun c110 => ?_) (fun c110 => ?_)
          ·
            refine wr_aload_n rfl rfl rfl ?_
            refine wr_iconst rfl rfl ?_
            refine wr_putZ (ci := 2) (f := 3) (fs' := [_, _, _, _, _, _, _]) rfl rfl rfl (by assumption) rfl rfl (by decide) rfl (fun h1 e1 => ?_)
            have w := e1 ▸ w.r0 e 1 op
            clear e1
            obtain ⟨c0, c1, c2⟩ := id w.rd
            have c3 := w.tm.1
            refine wr_aload_n rfl rfl rfl ?_
            refine wr_iload_n rfl rfl rfl ?_
            refine wr_putI (ci := 2) (f := 2) (fs' := [_, _, _, _, _, _, _]) rfl rfl rfl (by assumption) rfl rfl rfl (fun h1 e1 => ?_)
            have w := e1 ▸ w.r0 s 1 op
            clear e1
            obtain ⟨c0, c1, c2⟩ := id w.rd
            have c3 := w.tm.1
            refine wr_iload rfl rfl rfl ?_
            refine wr_iret rfl rfl ?_
            first | exact ⟨⟨_, rfl, by omega, by omega⟩, w⟩ | (exfalso; omega)
          ·
            refine wr_iload rfl rfl rfl ?_
            refine wr_iconst rfl rfl ?_
            refine wr_icmp_gt rfl rfl rfl (by omega) (by omega) (fun c116 => ?_) (fun c116 => ?_)
            ·
              refine wr_aload_n rfl rfl rfl ?_
              refine wr_iconst rfl rfl ?_
              refine wr_putZ (ci := 2) (f := 3) (fs' := [_, _, _, _, _, _, _]) rfl rfl rfl (by assumption) rfl rfl (by decide) rfl (fun h1 e1 => ?_)
              have w := e1 ▸ w.r0 e 1 op
              clear e1
              obtain ⟨c0, c1, c2⟩ := id w.rd
              have c3 := w.tm.1
              refine wr_aload_n rfl rfl rfl ?_
              refine wr_iload_n rfl rfl rfl ?_
              refine wr_putI (ci := 2) (f := 2) (fs' := [_, _, _, _, _, _, _]) rfl rfl rfl (by assumption) rfl rfl rfl (fun h1 e1 => ?_)
              have w := e1 ▸ w.r0 s 1 op
              clear e1
              obtain ⟨c0, c1, c2⟩ := id w.rd
              have c3 := w.tm.1
              refine wr_iload rfl rfl rfl ?_
              refine wr_iret rfl rfl ?_
              first | exact ⟨⟨_, rfl, by omega, by omega⟩, w⟩ | (exfalso; omega)
            ·
              refine wr_iload rfl rfl rfl ?_
              refine wr_if_ne rfl rfl rfl (by omega) (fun c121 => ?_) (fun c121 => ?_)
              ·
                refine wr_aload_n rfl rfl rfl ?_
                refine wr_iconst rfl rfl ?_
                refine wr_putZ (ci := 2) (f := 3) (fs' := [_, _, _, _, _, _, _]) rfl rfl rfl (by assumption) rfl rfl (by decide) rfl (fun h1 e1 => ?_)
                have w := e1 ▸ w.r0 e 1 op
                clear e1
                obtain ⟨c0, c1, c2⟩ := id w.rd
                have c3 := w.tm.1
                refine wr_aload_n rfl rfl rfl ?_
                refine wr_iload_n rfl rfl rfl ?_
                refine wr_putI (ci := 2) (f := 2) (fs' := [_, _, _, _, _, _, _]) rfl rfl rfl (by assumption) rfl rfl rfl (fun h1 e1 => ?_)
                have w := e1 ▸ w.r0 s 1 op
                clear e1
                obtain ⟨c0, c1, c2⟩ := id w.rd
                have c3 := w.tm.1
                refine wr_iload rfl rfl rfl ?_
                refine wr_iret rfl rfl ?_
                first | exact ⟨⟨_, rfl, by omega, by omega⟩, w⟩ | (exfalso; omega)
              ·
                refine wr_iload rfl rfl rfl ?_
                refine wr_iload_n rfl rfl rfl ?_
                refine wr_icmp_ge rfl rfl rfl (by omega) (by omega) (fun c127 => ?_) (fun c127 => ?_)
                ·
                  refine wr_iload rfl rfl rfl ?_
                  refine wr_iret rfl rfl ?_
                  first | exact ⟨⟨_, rfl, by omega, by omega⟩, w⟩ | (exfalso; omega)
                ·
                  refine wr_aload_n rfl rfl rfl ?_
                  refine wr_iconst rfl rfl ?_
                  refine wr_putZ (ci := 2) (f := 3) (fs' := [_, _, _, _, _, _, _]) rfl rfl rfl (by assumption) rfl rfl (by decide) rfl (fun h1 e1 => ?_)
                  have w := e1 ▸ w.r0 e 1 op
                  clear e1
                  obtain ⟨c0, c1, c2⟩ := id w.rd
                  have c3 := w.tm.1
                  refine wr_aload_n rfl rfl rfl ?_
                  refine wr_iload_n rfl rfl rfl ?_
                  refine wr_putI (ci := 2) (f := 2) (fs' := [_, _, _, _, _, _, _]) rfl rfl rfl (by assumption) rfl rfl rfl (fun h1 e1 => ?_)
                  have w := e1 ▸ w.r0 s 1 op
                  clear e1
                  obtain ⟨c0, c1, c2⟩ := id w.rd
                  have c3 := w.tm.1
                  refine wr_iload rfl rfl rfl ?_
                  refine wr_iret rfl rfl ?_
                  first | exact ⟨⟨_, rfl, by omega, by omega⟩, w⟩ | (exfalso; omega)
    · rw [if_neg c]
      rw [bd] at c
      have mV : min V 100000 = V := by omega
      rw [mV]
      refine wr_aload_n rfl rfl rfl ?_
      refine wr_get (ci := 2) (f := 2) rfl rfl rfl (by assumption) rfl ?_
      refine wr_iload_n rfl rfl rfl ?_
      refine wr_isub rfl rfl ?_
      refine wr_istore (ls' := [_, _, _, _, _, _, _]) rfl rfl (Nat.le_of_ble_eq_true rfl) rfl ?_
      refine wr_iload rfl rfl rfl ?_
      refine wr_iconst rfl rfl ?_
      refine wr_icmp_le rfl rfl rfl (by omega) (by omega) (fun c91 => ?_) (fun c91 => ?_)
      ·
        refine wr_iconst rfl rfl ?_
        refine wr_istore (ls' := [_, _, _, _, _, _, _]) rfl rfl (Nat.le_of_ble_eq_true rfl) rfl ?_
        refine wr_iload rfl rfl rfl ?_
        refine wr_iconst rfl rfl ?_
        refine wr_icmp_lt rfl rfl rfl (by omega) (by omega) (fun c110 => ?_) (fun c110 => ?_)
        ·
          refine wr_aload_n rfl rfl rfl ?_
          refine wr_iconst rfl rfl ?_
          refine wr_putZ (ci := 2) (f := 3) (fs' := [_, _, _, _, _, _, _]) rfl rfl rfl (by assumption) rfl rfl (by decide) rfl (fun h1 e1 => ?_)
          have w := e1 ▸ w.r0 e 1 op
          clear e1
          obtain ⟨c0, c1, c2⟩ := id w.rd
          have c3 := w.tm.1
          refine wr_aload_n rfl rfl rfl ?_
          refine wr_iload_n rfl rfl rfl ?_
          refine wr_putI (ci := 2) (f := 2) (fs' := [_, _, _, _, _, _, _]) rfl rfl rfl (by assumption) rfl rfl rfl (fun h1 e1 => ?_)
          have w := e1 ▸ w.r0 s 1 op
          clear e1
          obtain ⟨c0, c1, c2⟩ := id w.rd
          have c3 := w.tm.1
          refine wr_iload rfl rfl rfl ?_
          refine wr_iret rfl rfl ?_
          first | (exfalso; omega) | exact ⟨rfl, w⟩
        ·
          refine wr_iload rfl rfl rfl ?_
          refine wr_iconst rfl rfl ?_
          refine wr_icmp_gt rfl rfl rfl (by omega) (by omega) (fun c116 => ?_) (fun c116 => ?_)
          ·
            refine wr_aload_n rfl rfl rfl ?_
            refine wr_iconst rfl rfl ?_
            refine wr_putZ (ci := 2) (f := 3) (fs' := [_, _, _, _, _, _, _]) rfl rfl rfl (by assumption) rfl rfl (by decide) rfl (fun h1 e1 => ?_)
            have w := e1 ▸ w.r0 e 1 op
            clear e1
            obtain ⟨c0, c1, c2⟩ := id w.rd
            have c3 := w.tm.1
            refine wr_aload_n rfl rfl rfl ?_
            refine wr_iload_n rfl rfl rfl ?_
            refine wr_putI (ci := 2) (f := 2) (fs' := [_, _, _, _, _, _, _]) rfl rfl rfl (by assumption) rfl rfl rfl (fun h1 e1 => ?_)
            have w := e1 ▸ w.r0 s 1 op
            clear e1
            obtain ⟨c0, c1, c2⟩ := id w.rd
            have c3 := w.tm.1
            refine wr_iload rfl rfl rfl ?_
            refine wr_iret rfl rfl ?_
            first | (exfalso; omega) | exact ⟨rfl, w⟩
          ·
            refine wr_iload rfl rfl rfl ?_
            refine wr_if_ne rfl rfl rfl (by omega) (fun c121 => ?_) (fun c121 => ?_)
            ·
              refine wr_aload_n rfl rfl rfl ?_
              refine wr_iconst rfl rfl ?_
              refine wr_putZ (ci := 2) (f := 3) (fs' := [_, _, _, _, _, _, _]) rfl rfl rfl (by assumption) rfl rfl (by decide) rfl (fun h1 e1 => ?_)
              have w := e1 ▸ w.r0 e 1 op
              clear e1
              obtain ⟨c0, c1, c2⟩ := id w.rd
              have c3 := w.tm.1
              refine wr_aload_n rfl rfl rfl ?_
              refine wr_iload_n rfl rfl rfl ?_
              refine wr_putI (ci := 2) (f := 2) (fs' := [_, _, _, _, _, _, _]) rfl rfl rfl (by assumption) rfl rfl rfl (fun h1 e1 => ?_)
              have w := e1 ▸ w.r0 s 1 op
              clear e1
              obtain ⟨c0, c1, c2⟩ := id w.rd
              have c3 := w.tm.1
              refine wr_iload rfl rfl rfl ?_
              refine wr_iret rfl rfl ?_
              first | (exfalso; omega) | exact ⟨rfl, w⟩
            ·
              refine wr_iload rfl rfl rfl ?_
              refine wr_iload_n rfl rfl rfl ?_
              refine wr_icmp_ge rfl rfl rfl (by omega) (by omega) (fun c127 => ?_) (fun c127 => ?_)
              ·
                refine wr_iload rfl rfl rfl ?_
                refine wr_iret rfl rfl ?_
                first | (exfalso; omega) | exact ⟨rfl, w⟩
              ·
                refine wr_aload_n rfl rfl rfl ?_
                refine wr_iconst rfl rfl ?_
                refine wr_putZ (ci := 2) (f := 3) (fs' := [_, _, _, _, _, _, _]) rfl rfl rfl (by assumption) rfl rfl (by decide) rfl (fun h1 e1 => ?_)
                have w := e1 ▸ w.r0 e 1 op
                clear e1
                obtain ⟨c0, c1, c2⟩ := id w.rd
                have c3 := w.tm.1
                refine wr_aload_n rfl rfl rfl ?_
                refine wr_iload_n rfl rfl rfl ?_
                refine wr_putI (ci := 2) (f := 2) (fs' := [_, _, _, _, _, _, _]) rfl rfl rfl (by assumption) rfl rfl rfl (fun h1 e1 => ?_)
                have w := e1 ▸ w.r0 s 1 op
                clear e1
                obtain ⟨c0, c1, c2⟩ := id w.rd
                have c3 := w.tm.1
                refine wr_iload rfl rfl rfl ?_
                refine wr_iret rfl rfl ?_
                first | (exfalso; omega) | exact ⟨rfl, w⟩
      ·
        refine wr_iload_n rfl rfl rfl ?_
        refine wr_bipush rfl rfl (by decide) ?_
        refine wr_icmp_ne rfl rfl rfl (by omega) (by omega) (fun c97 => ?_) (fun c97 => ?_)
        ·
          refine wr_iconst rfl rfl ?_
          refine wr_istore (ls' := [_, _, _, _, _, _, _]) rfl rfl (Nat.le_of_ble_eq_true rfl) rfl ?_
          refine wr_iload rfl rfl rfl ?_
          refine wr_iconst rfl rfl ?_
          refine wr_icmp_lt rfl rfl rfl (by omega) (by omega) (fun c110 => ?_) (fun c110 => ?_)
          ·
            refine wr_aload_n rfl rfl rfl ?_
            refine wr_iconst rfl rfl ?_
            refine wr_putZ (ci := 2) (f := 3) (fs' := [_, _, _, _, _, _, _]) rfl rfl rfl (by assumption) rfl rfl (by decide) rfl (fun h1 e1 => ?_)
            have w := e1 ▸ w.r0 e 1 op
            clear e1
            obtain ⟨c0, c1, c2⟩ := id w.rd
            have c3 := w.tm.1
            refine wr_aload_n rfl rfl rfl ?_
            refine wr_iload_n rfl rfl rfl ?_
            refine wr_putI (ci := 2) (f := 2) (fs' := [_, _, _, _, _, _, _]) rfl rfl rfl (by assumption) rfl rfl rfl (fun h1 e1 => ?_)
            have w := e1 ▸ w.r0 s 1 op
            clear e1
            obtain ⟨c0, c1, c2⟩ := id w.rd
            have c3 := w.tm.1
            refine wr_iload rfl rfl rfl ?_
            refine wr_iret rfl rfl ?_
            first | (exfalso; omega) | exact ⟨rfl, w⟩
          ·
            refine wr_iload rfl rfl rfl ?_
            refine wr_iconst rfl rfl ?_
            refine wr_icmp_gt rfl rfl rfl (by omega) (by omega) (fun c116 => ?_) (fun c116 => ?_)
            ·
              refine wr_aload_n rfl rfl rfl ?_
              refine wr_iconst rfl rfl ?_
              refine wr_putZ (ci := 2) (f := 3) (fs' := [_, _, _, _, _, _, _]) rfl rfl rfl (by assumption) rfl rfl (by decide) rfl (fun h1 e1 => ?_)
              have w := e1 ▸ w.r0 e 1 op
              clear e1
              obtain ⟨c0, c1, c2⟩ := id w.rd
              have c3 := w.tm.1
              refine wr_aload_n rfl rfl rfl ?_
              refine wr_iload_n rfl rfl rfl ?_
              refine wr_putI (ci := 2) (f := 2) (fs' := [_, _, _, _, _, _, _]) rfl rfl rfl (by assumption) rfl rfl rfl (fun h1 e1 => ?_)
              have w := e1 ▸ w.r0 s 1 op
              clear e1
              obtain ⟨c0, c1, c2⟩ := id w.rd
              have c3 := w.tm.1
              refine wr_iload rfl rfl rfl ?_
              refine wr_iret rfl rfl ?_
              first | (exfalso; omega) | exact ⟨rfl, w⟩
            ·
              refine wr_iload rfl rfl rfl ?_
              refine wr_if_ne rfl rfl rfl (by omega) (fun c121 => ?_) (fun c121 => ?_)
              ·
                refine wr_aload_n rfl rfl rfl ?_
                refine wr_iconst rfl rfl ?_
                refine wr_putZ (ci := 2) (f := 3) (fs' := [_, _, _, _, _, _, _]) rfl rfl rfl (by assumption) rfl rfl (by decide) rfl (fun h1 e1 => ?_)
                have w := e1 ▸ w.r0 e 1 op
                clear e1
                obtain ⟨c0, c1, c2⟩ := id w.rd
                have c3 := w.tm.1
                refine wr_aload_n rfl rfl rfl ?_
                refine wr_iload_n rfl rfl rfl ?_
                refine wr_putI (ci := 2) (f := 2) (fs' := [_, _, _, _, _, _, _]) rfl rfl rfl (by assumption) rfl rfl rfl (fun h1 e1 => ?_)
                have w := e1 ▸ w.r0 s 1 op
                clear e1
                obtain ⟨c0, c1, c2⟩ := id w.rd
                have c3 := w.tm.1
                refine wr_iload rfl rfl rfl ?_
                refine wr_iret rfl rfl ?_
                first | (exfalso; omega) | exact ⟨rfl, w⟩
              ·
                refine wr_iload rfl rfl rfl ?_
                refine wr_iload_n rfl rfl rfl ?_
                refine wr_icmp_ge rfl rfl rfl (by omega) (by omega) (fun c127 => ?_) (fun c127 => ?_)
                ·
                  refine wr_iload rfl rfl rfl ?_
                  refine wr_iret rfl rfl ?_
                  first | (exfalso; omega) | exact ⟨rfl, w⟩
                ·
                  refine wr_aload_n rfl rfl rfl ?_
                  refine wr_iconst rfl rfl ?_
                  refine wr_putZ (ci := 2) (f := 3) (fs' := [_, _, _, _, _, _, _]) rfl rfl rfl (by assumption) rfl rfl (by decide) rfl (fun h1 e1 => ?_)
                  have w := e1 ▸ w.r0 e 1 op
                  clear e1
                  obtain ⟨c0, c1, c2⟩ := id w.rd
                  have c3 := w.tm.1
                  refine wr_aload_n rfl rfl rfl ?_
                  refine wr_iload_n rfl rfl rfl ?_
                  refine wr_putI (ci := 2) (f := 2) (fs' := [_, _, _, _, _, _, _]) rfl rfl rfl (by assumption) rfl rfl rfl (fun h1 e1 => ?_)
                  have w := e1 ▸ w.r0 s 1 op
                  clear e1
                  obtain ⟨c0, c1, c2⟩ := id w.rd
                  have c3 := w.tm.1
                  refine wr_iload rfl rfl rfl ?_
                  refine wr_iret rfl rfl ?_
                  first | (exfalso; omega) | exact ⟨rfl, w⟩
        ·
          refine wr_iconst rfl rfl ?_
          refine wr_goto rfl rfl ?_
          refine wr_istore (ls' := [_, _, _, _, _, _, _]) rfl rfl (Nat.le_of_ble_eq_true rfl) rfl ?_
          refine wr_iload rfl rfl rfl ?_
          refine wr_iconst rfl rfl ?_
          refine wr_icmp_lt rfl rfl rfl (by omega) (by omega) (fun c110 => ?_) (fun c110 => ?_)
          ·
            refine wr_aload_n rfl rfl rfl ?_
            refine wr_iconst rfl rfl ?_
            refine wr_putZ (ci := 2) (f := 3) (fs' := [_, _, _, _, _, _, _]) rfl rfl rfl (by assumption) rfl rfl (by decide) rfl (fun h1 e1 => ?_)
            have w := e1 ▸ w.r0 e 1 op
            clear e1
            obtain ⟨c0, c1, c2⟩ := id w.rd
            have c3 := w.tm.1
            refine wr_aload_n rfl rfl rfl ?_
            refine wr_iload_n rfl rfl rfl ?_
            refine wr_putI (ci := 2) (f := 2) (fs' := [_, _, _, _, _, _, _]) rfl rfl rfl (by assumption) rfl rfl rfl (fun h1 e1 => ?_)
            have w := e1 ▸ w.r0 s 1 op
            clear e1
            obtain ⟨c0, c1, c2⟩ := id w.rd
            have c3 := w.tm.1
            refine wr_iload rfl rfl rfl ?_
            refine wr_iret rfl rfl ?_
            first | (exfalso; omega) | exact ⟨rfl, w⟩
          ·
            refine wr_iload rfl rfl rfl ?_
            refine wr_iconst rfl rfl ?_
            refine wr_icmp_gt rfl rfl rfl (by omega) (by omega) (fun c116 => ?_) (fun c116 => ?_)
            ·
              refine wr_aload_n rfl rfl rfl ?_
              refine wr_iconst rfl rfl ?_
              refine wr_putZ (ci := 2) (f := 3) (fs' := [_, _, _, _, _, _, _]) rfl rfl rfl (by assumption) rfl rfl (by decide) rfl (fun h1 e1 => ?_)
              have w := e1 ▸ w.r0 e 1 op
              clear e1
              obtain ⟨c0, c1, c2⟩ := id w.rd
              have c3 := w.tm.1
              refine wr_aload_n rfl rfl rfl ?_
              refine wr_iload_n rfl rfl rfl ?_
              refine wr_putI (ci := 2) (f := 2) (fs' := [_, _, _, _, _, _, _]) rfl rfl rfl (by assumption) rfl rfl rfl (fun h1 e1 => ?_)
              have w := e1 ▸ w.r0 s 1 op
              clear e1
              obtain ⟨c0, c1, c2⟩ := id w.rd
              have c3 := w.tm.1
              refine wr_iload rfl rfl rfl ?_
              refine wr_iret rfl rfl ?_
              first | (exfalso; omega) | exact ⟨rfl, w⟩
            ·
              refine wr_iload rfl rfl rfl ?_
              refine wr_if_ne rfl rfl rfl (by omega) (fun c121 => ?_) (fun c121 => ?_)
              ·
                refine wr_aload_n rfl rfl rfl ?_
                refine wr_iconst rfl rfl ?_
                refine wr_putZ (ci := 2) (f := 3) (fs' := [_, _, _, _, _, _, _]) rfl rfl rfl (by assumption) rfl rfl (by decide) rfl (fun h1 e1 => ?_)
                have w := e1 ▸ w.r0 e 1 op
                clear e1
                obtain ⟨c0, c1, c2⟩ := id w.rd
                have c3 := w.tm.1
                refine wr_aload_n rfl rfl rfl ?_
                refine wr_iload_n rfl rfl rfl ?_
                refine wr_putI (ci := 2) (f := 2) (fs' := [_, _, _, _, _, _, _]) rfl rfl rfl (by assumption) rfl rfl rfl (fun h1 e1 => ?_)
                have w := e1 ▸ w.r0 s 1 op
                clear e1
                obtain ⟨c0, c1, c2⟩ := id w.rd
                have c3 := w.tm.1
                refine wr_iload rfl rfl rfl ?_
                refine wr_iret rfl rfl ?_
                first | (exfalso; omega) | exact ⟨rfl, w⟩
              ·
                refine wr_iload rfl rfl rfl ?_
                refine wr_iload_n rfl rfl rfl ?_
                refine wr_icmp_ge rfl rfl rfl (by omega) (by omega) (fun c127 => ?_) (fun c127 => ?_)
                ·
                  refine wr_iload rfl rfl rfl ?_
                  refine wr_iret rfl rfl ?_
                  first | (exfalso; omega) | exact ⟨rfl, w⟩
                ·
                  refine wr_aload_n rfl rfl rfl ?_
                  refine wr_iconst rfl rfl ?_
                  refine wr_putZ (ci := 2) (f := 3) (fs' := [_, _, _, _, _, _, _]) rfl rfl rfl (by assumption) rfl rfl (by decide) rfl (fun h1 e1 => ?_)
                  have w := e1 ▸ w.r0 e 1 op
                  clear e1
                  obtain ⟨c0, c1, c2⟩ := id w.rd
                  have c3 := w.tm.1
                  refine wr_aload_n rfl rfl rfl ?_
                  refine wr_iload_n rfl rfl rfl ?_
                  refine wr_putI (ci := 2) (f := 2) (fs' := [_, _, _, _, _, _, _]) rfl rfl rfl (by assumption) rfl rfl rfl (fun h1 e1 => ?_)
                  have w := e1 ▸ w.r0 s 1 op
                  clear e1
                  obtain ⟨c0, c1, c2⟩ := id w.rd
                  have c3 := w.tm.1
                  refine wr_iload rfl rfl rfl ?_
                  refine wr_iret rfl rfl ?_
                  first | (exfalso; omega) | exact ⟨rfl, w⟩
  have L : ∀ (k q : Nat) (h : am_H), q + k = n → s ≤ q → dgE T n q = e → PW h0 b t T n h m q 0 wt op → am_w X (d + 1) 40 (26, [.ref b, .int (iI least), .int (iI s), .int (iI z), .int (iI (min (nvF T (q - s) s 0) 100000)), am_U, am_U], [], h) (numQ h0 b t T n m wt op (if badN T least s e = true then .error s else .ok (V, e))) := by
    intro k
    induction k with
    | zero =>
      intro q h hk hq he w
      have eq : q = e := by
        rw [← he]
        unfold dgE
        rw [show n - q = 0 by omega]
        rfl
      obtain ⟨c0, c1, c2⟩ := id w.rd
      have c3 := w.tm.1
      refine wr_aload_n rfl rfl rfl ?_
      refine wr_get (ci := 2) (f := 2) rfl rfl rfl (by assumption) rfl ?_
      refine wr_aload_n rfl rfl rfl ?_
      refine wr_get (ci := 2) (f := 1) rfl rfl rfl (by assumption) rfl ?_
      refine wr_icmp_ge rfl rfl rfl (by omega) (by omega) (fun c34 => ?_) (fun c34 => ?_)
      · rw [eq, ← eV]
        exact J h (eq ▸ w)
      · exfalso; omega
    | succ k ih =>
      intro q h hk hq he w
      obtain ⟨c0, c1, c2⟩ := id w.rd
      have c3 := w.tm.1
      have hT := o.2 q (by omega)
      have qs : sgA T n (-1) q = T q := sgA_at (by omega)
      have st : dgE T n q = if 48 ≤ T q ∧ T q ≤ 57 then dgE T n (q + 1) else q := by
        unfold dgE
        rw [show n - q = (n - (q + 1)) + 1 by omega, dgF]
      have db := b2_in (48 ≤ T q ∧ T q ≤ 57)
      refine wr_aload_n rfl rfl rfl ?_
      refine wr_get (ci := 2) (f := 2) rfl rfl rfl (by assumption) rfl ?_
      refine wr_aload_n rfl rfl rfl ?_
      refine wr_get (ci := 2) (f := 1) rfl rfl rfl (by assumption) rfl ?_
      refine wr_icmp_ge rfl rfl rfl (by omega) (by omega) (fun c34 => ?_) (fun c34 => ?_)
      · exfalso; omega
      ·
        refine wr_aload_n rfl rfl rfl ?_
        refine wr_cv0 (k' := 23) (ci := 2) rfl rfl rfl rfl (by assumption) rfl rfl (wp_rsign w hn (by omega)) (fun r h2 q => ?_)
        obtain ⟨rfl, hh⟩ := q
        rw [hh, qs]
        clear hh h2
        dsimp only [Option.toList, List.cons_append, List.nil_append]
        refine wr_cs1 (k' := 41) rfl rfl rfl rfl rfl (wp_isDigit (by omega)) (fun r h2 q => ?_)
        obtain ⟨rfl, hh⟩ := q
        rw [hh]
        clear hh h2
        dsimp only [Option.toList, List.cons_append, List.nil_append]
        refine wr_if_eq rfl rfl rfl (by omega) (fun c44 => ?_) (fun c44 => ?_)
        ·
          have nd : ¬ (48 ≤ T q ∧ T q ≤ 57) := fun x => by rw [b2_t x] at c44; omega
          rw [if_neg nd] at st
          have eq : q = e := by omega
          rw [eq, ← eV]
          exact J h (eq ▸ w)
        ·
          have nd : 48 ≤ T q ∧ T q ≤ 57 := Decidable.byContradiction fun x => c44 (b2_f x)
          rw [if_pos nd] at st
          have dq := dgE_spec T n (q + 1)
          have vq := nvF_in T s (q - s) (fun j a b => ds.2.2 j a (by omega))
          have vs : nvF T (q + 1 - s) s 0 = nvF T (q - s) s 0 * 10 + T q - 48 := by
            rw [show q + 1 - s = (q - s) + 1 by omega, nvF_snoc, show s + (q - s) = q by omega]
          refine wr_iload rfl rfl rfl ?_
          refine wr_bipush rfl rfl (by decide) ?_
          refine wr_imul rfl rfl ?_
          refine wr_aload_n rfl rfl rfl ?_
          refine wr_cv0 (k' := 23) (ci := 2) rfl rfl rfl rfl (by assumption) rfl rfl (wp_rsign w hn (by omega)) (fun r h2 q => ?_)
          obtain ⟨rfl, hh⟩ := q
          rw [hh, qs]
          clear hh h2
          dsimp only [Option.toList, List.cons_append, List.nil_append]
          refine wr_iadd rfl rfl ?_
          refine wr_bipush rfl rfl (by decide) ?_
          refine wr_isub rfl rfl ?_
          refine wr_ldc (z := 100000) rfl rfl rfl (by decide) ?_
          refine wr_mmin rfl rfl rfl rfl (by omega) (by omega) ?_
          refine wr_istore (ls' := [_, _, _, _, _, _, _]) rfl rfl (Nat.le_of_ble_eq_true rfl) rfl ?_
          refine wr_aload_n rfl rfl rfl ?_
          refine wr_dup rfl rfl ?_
          refine wr_get (ci := 2) (f := 2) rfl rfl rfl (by assumption) rfl ?_
          refine wr_iconst rfl rfl ?_
          refine wr_iadd rfl rfl ?_
          refine wr_putI (ci := 2) (f := 2) (fs' := [_, _, _, _, _, _, _]) rfl rfl rfl (by assumption) rfl rfl rfl (fun h1 e1 => ?_)
          have w := e1 ▸ w.r0 (q + 1) 0 op
          refine wr_goto rfl rfl ?_
          rw [show min (min (nvF T (q - s) s 0) 100000 * 10 + T q - 48) 100000 = min (nvF T (q + 1 - s) s 0) 100000 by omega]
          exact ih (q + 1) h1 (by omega) (by omega) (by omega) w
  obtain ⟨c0, c1, c2⟩ := id w.rd
  have c3 := w.tm.1
  refine am_c.of (Nat.le_of_ble_eq_true rfl) ?_
  show am_w _ _ _ (_, [_, _, _, _, _, _, _], _, _) _
  refine wr_aload_n rfl rfl rfl ?_
  refine wr_cv0 (k' := 22) (ci := 2) rfl rfl rfl rfl (by assumption) rfl rfl (wp_skip w o hp) (fun r h2 q => ?_)
  obtain ⟨rfl, w⟩ := q
  dsimp only [Option.toList, List.nil_append]
  rw [← es] at w
  obtain ⟨c0, c1, c2⟩ := id w.rd
  have c3 := w.tm.1
  refine wr_aload_n rfl rfl rfl ?_
  refine wr_get (ci := 2) (f := 3) rfl rfl rfl (by assumption) rfl ?_
  refine wr_if_eq rfl rfl rfl (by omega) (fun c8 => ?_) (fun c8 => ?_)
  ·
    refine wr_aload_n rfl rfl rfl ?_
    refine wr_get (ci := 2) (f := 2) rfl rfl rfl (by assumption) rfl ?_
    refine wr_istore_n (ls' := [_, _, _, _, _, _, _]) rfl rfl (Nat.le_of_ble_eq_true rfl) rfl ?_
    refine wr_aload_n rfl rfl rfl ?_
    refine wr_cv0 (k' := 23) (ci := 2) rfl rfl rfl rfl (by assumption) rfl rfl (wp_rsign w hn (by omega)) (fun r h2 q => ?_)
    obtain ⟨rfl, hh⟩ := q
    rw [hh, ← ez]
    clear hh
    dsimp only [Option.toList, List.cons_append, List.nil_append]
    refine wr_istore_n (ls' := [_, _, _, _, _, _, _]) rfl rfl (Nat.le_of_ble_eq_true rfl) rfl ?_
    refine wr_iconst rfl rfl ?_
    refine wr_istore (ls' := [_, _, _, _, _, _, _]) rfl rfl (Nat.le_of_ble_eq_true rfl) rfl ?_
    have := L (n - s) s _ (by omega) (Nat.le_refl _) ee.symm w
    rw [show s - s = 0 by omega] at this
    exact this
  · exfalso; omega
theorem wp_rnum1 {d : Nat} {least : Int} (w : PW h0 b t T n h m p 1 wt op) : am_c X (d + 2) 40 [.ref b, .int (iI least)] h (fun r h' => r = some (.int (iI 0)) ∧ PW h0 b t T n h' m p 1 wt op) := by
  obtain ⟨c0, c1, c2⟩ := id w.rd
  have c3 := w.tm.1
  refine am_c.of (Nat.le_of_ble_eq_true rfl) ?_
  show am_w _ _ _ (_, [_, _, _, _, _, _, _], _, _) _
  refine wr_aload_n rfl rfl rfl ?_
  refine wr_cv0 (k' := 22) (ci := 2) rfl rfl rfl rfl (by assumption) rfl rfl (wp_skip1 w) (fun r h2 q => ?_)
  obtain ⟨rfl, w⟩ := q
  dsimp only [Option.toList, List.nil_append]
  obtain ⟨c0, c1, c2⟩ := id w.rd
  have c3 := w.tm.1
  refine wr_aload_n rfl rfl rfl ?_
  refine wr_get (ci := 2) (f := 3) rfl rfl rfl (by assumption) rfl ?_
  refine wr_if_eq rfl rfl rfl (by omega) (fun c8 => ?_) (fun c8 => ?_)
  · exfalso; omega
  ·
    refine wr_iconst rfl rfl ?_
    refine wr_iret rfl rfl ?_
    exact ⟨rfl, w⟩
def unitQ (h0 : am_H) (b t : Nat) (T : Nat → Int) (n : Nat) (m : Tm) (wt : Nat → Int) (op : Nat) (P : PR Unit) (r : Option Value) (h' : am_H) : Prop := r = none ∧ match P with
  | .error q => PW h0 b t T n h' m q 1 wt op
  | .ok (_, q) => PW h0 b t T n h' m q 0 wt op
theorem wp_rexp {d : Nat} {c : Int} (w : PW h0 b t T n h m p 0 wt op) (o : okS T n) (hp : p ≤ n) (hc : 0 < c ∧ c ≤ 126) : am_c X (d + 2) 21 [.ref b, .int (iI c)] h (unitQ h0 b t T n m wt op (pexp T n c p)) := by
  have hn := o.1
  have sk := skp_spec T n p
  have sn := sk.2.1 hp
  have zi := sgA_in (p := skp T n p) (e := -1) o (by decide)
  unfold pexp
  obtain ⟨c0, c1, c2⟩ := id w.rd
  have c3 := w.tm.1
  refine am_c.of (Nat.le_of_ble_eq_true rfl) ?_
  show am_w _ _ _ (_, [_, _], _, _) _
  by_cases q : sgA T n 0 (skp T n p) = c
  · rw [if_pos q]
    have q2 := (sgA_01 (T := T) (n := n) (p := skp T n p) hc.1).mpr q
    refine wr_aload_n rfl rfl rfl ?_
    refine wr_cv0 (k' := 22) (ci := 2) rfl rfl rfl rfl (by assumption) rfl rfl (wp_skip w o hp) (fun r h2 q => ?_)
    obtain ⟨rfl, w⟩ := q
    dsimp only [Option.toList, List.cons_append, List.nil_append]
    obtain ⟨c0, c1, c2⟩ := id w.rd
    have c3 := w.tm.1
    refine wr_aload_n rfl rfl rfl ?_
    refine wr_get (ci := 2) (f := 3) rfl rfl rfl (by assumption) rfl ?_
    refine wr_if_ne rfl rfl rfl (by omega) (fun c8 => by exfalso; omega) (fun c8 => ?_)
    refine wr_aload_n rfl rfl rfl ?_
    refine wr_cv0 (k' := 23) (ci := 2) rfl rfl rfl rfl (by assumption) rfl rfl (wp_rsign w hn (by omega)) (fun r h2 q => ?_)
    obtain ⟨rfl, hh⟩ := q
    rw [hh]
    clear hh h2
    dsimp only [Option.toList, List.cons_append, List.nil_append]
    refine wr_iload_n rfl rfl rfl ?_
    refine wr_icmp_eq rfl rfl rfl (by omega) (by omega) (fun c16 => ?_) (fun c16 => by exfalso; omega)
    refine wr_aload_n rfl rfl rfl ?_
    refine wr_dup rfl rfl ?_
    refine wr_get (ci := 2) (f := 2) rfl rfl rfl (by assumption) rfl ?_
    refine wr_iconst rfl rfl ?_
    refine wr_iadd rfl rfl ?_
    refine wr_putI (ci := 2) (f := 2) (fs' := [_, _, _, _, _, _, _]) rfl rfl rfl (by assumption) rfl rfl rfl (fun h1 e1 => ?_)
    have w := e1 ▸ w.r0 (skp T n p + 1) 0 op
    clear e1
    obtain ⟨c0, c1, c2⟩ := id w.rd
    have c3 := w.tm.1
    refine wr_vret rfl rfl ?_
    exact ⟨rfl, w⟩
  · rw [if_neg q]
    have q2 : ¬ sgA T n (-1) (skp T n p) = c := fun x => q ((sgA_01 (T := T) (n := n) (p := skp T n p) hc.1).mp x)
    refine wr_aload_n rfl rfl rfl ?_
    refine wr_cv0 (k' := 22) (ci := 2) rfl rfl rfl rfl (by assumption) rfl rfl (wp_skip w o hp) (fun r h2 q => ?_)
    obtain ⟨rfl, w⟩ := q
    dsimp only [Option.toList, List.cons_append, List.nil_append]
    obtain ⟨c0, c1, c2⟩ := id w.rd
    have c3 := w.tm.1
    refine wr_aload_n rfl rfl rfl ?_
    refine wr_get (ci := 2) (f := 3) rfl rfl rfl (by assumption) rfl ?_
    refine wr_if_ne rfl rfl rfl (by omega) (fun c8 => by exfalso; omega) (fun c8 => ?_)
    refine wr_aload_n rfl rfl rfl ?_
    refine wr_cv0 (k' := 23) (ci := 2) rfl rfl rfl rfl (by assumption) rfl rfl (wp_rsign w hn (by omega)) (fun r h2 q => ?_)
    obtain ⟨rfl, hh⟩ := q
    rw [hh]
    clear hh h2
    dsimp only [Option.toList, List.cons_append, List.nil_append]
    refine wr_iload_n rfl rfl rfl ?_
    refine wr_icmp_eq rfl rfl rfl (by omega) (by omega) (fun c16 => by exfalso; omega) (fun c16 => ?_)
    refine wr_aload_n rfl rfl rfl ?_
    refine wr_iconst rfl rfl ?_
    refine wr_putZ (ci := 2) (f := 3) (fs' := [_, _, _, _, _, _, _]) rfl rfl rfl (by assumption) rfl rfl (by decide) rfl (fun h1 e1 => ?_)
    have w := e1 ▸ w.r0 (skp T n p) 1 op
    clear e1
    obtain ⟨c0, c1, c2⟩ := id w.rd
    have c3 := w.tm.1
    refine wr_vret rfl rfl ?_
    exact ⟨rfl, w⟩
theorem wp_rexp1 {d : Nat} {c : Int} (w : PW h0 b t T n h m p 1 wt op) : am_c X (d + 2) 21 [.ref b, .int (iI c)] h (fun r h' => r = none ∧ PW h0 b t T n h' m p 1 wt op) := by
  obtain ⟨c0, c1, c2⟩ := id w.rd
  have c3 := w.tm.1
  refine am_c.of (Nat.le_of_ble_eq_true rfl) ?_
  show am_w _ _ _ (_, [_, _], _, _) _
  refine wr_aload_n rfl rfl rfl ?_
  refine wr_cv0 (k' := 22) (ci := 2) rfl rfl rfl rfl (by assumption) rfl rfl (wp_skip1 w) (fun r h2 q => ?_)
  obtain ⟨rfl, w⟩ := q
  dsimp only [Option.toList, List.cons_append, List.nil_append]
  obtain ⟨c0, c1, c2⟩ := id w.rd
  have c3 := w.tm.1
  refine wr_aload_n rfl rfl rfl ?_
  refine wr_get (ci := 2) (f := 3) rfl rfl rfl (by assumption) rfl ?_
  refine wr_if_ne rfl rfl rfl (by omega) (fun c8 => ?_) (fun c8 => by exfalso; omega)
  refine wr_aload_n rfl rfl rfl ?_
  refine wr_iconst rfl rfl ?_
  refine wr_putZ (ci := 2) (f := 3) (fs' := [_, _, _, _, _, _, _]) rfl rfl rfl (by assumption) rfl rfl (by decide) rfl (fun h1 e1 => ?_)
  have w := e1 ▸ w.r0 p 1 op
  clear e1
  obtain ⟨c0, c1, c2⟩ := id w.rd
  have c3 := w.tm.1
  refine wr_vret rfl rfl ?_
  exact ⟨rfl, w⟩
theorem wp_ropen {d : Nat} (w : PW h0 b t T n h m p 0 wt op) (o : okS T n) (hp : p ≤ n) (ho : op ≤ 5) : am_c X (d + 2) 30 [.ref b] h (unitQ h0 b t T n m wt op (popn T n op p)) := by
  have hn := o.1
  have sk := skp_spec T n p
  have sn := sk.2.1 hp
  have zi := sgA_in (p := skp T n p) (e := -1) o (by decide)
  unfold popn
  obtain ⟨c0, c1, c2⟩ := id w.rd
  have c3 := w.tm.1
  refine am_c.of (Nat.le_of_ble_eq_true rfl) ?_
  show am_w _ _ _ (_, [_], _, _) _
  by_cases q5 : 5 ≤ op
  · rw [if_pos (Or.inl q5)]
    refine wr_aload_n rfl rfl rfl ?_
    refine wr_cv0 (k' := 22) (ci := 2) rfl rfl rfl rfl (by assumption) rfl rfl (wp_skip w o hp) (fun r h2 q => ?_)
    obtain ⟨rfl, w⟩ := q
    dsimp only [Option.toList, List.cons_append, List.nil_append]
    obtain ⟨c0, c1, c2⟩ := id w.rd
    have c3 := w.tm.1
    refine wr_aload_n rfl rfl rfl ?_
    refine wr_get (ci := 2) (f := 3) rfl rfl rfl (by assumption) rfl ?_
    refine wr_if_ne rfl rfl rfl (by omega) (fun c8 => by exfalso; omega) (fun c8 => ?_)
    refine wr_aload_n rfl rfl rfl ?_
    refine wr_get (ci := 2) (f := 6) rfl rfl rfl (by assumption) rfl ?_
    refine wr_iconst rfl rfl ?_
    refine wr_icmp_ge rfl rfl rfl (by omega) (by omega) (fun c16 => ?_) (fun c16 => by exfalso; omega)
    refine wr_aload_n rfl rfl rfl ?_
    refine wr_iconst rfl rfl ?_
    refine wr_putZ (ci := 2) (f := 3) (fs' := [_, _, _, _, _, _, _]) rfl rfl rfl (by assumption) rfl rfl (by decide) rfl (fun h1 e1 => ?_)
    have w := e1 ▸ w.r0 (skp T n p) 1 op
    clear e1
    obtain ⟨c0, c1, c2⟩ := id w.rd
    have c3 := w.tm.1
    refine wr_vret rfl rfl ?_
    exact ⟨rfl, w⟩
  by_cases q : sgA T n 0 (skp T n p) = 40
  · rw [if_neg (by omega)]
    have q2 := (sgA_01 (T := T) (n := n) (p := skp T n p) (c := 40) (by decide)).mpr q
    refine wr_aload_n rfl rfl rfl ?_
    refine wr_cv0 (k' := 22) (ci := 2) rfl rfl rfl rfl (by assumption) rfl rfl (wp_skip w o hp) (fun r h2 q => ?_)
    obtain ⟨rfl, w⟩ := q
    dsimp only [Option.toList, List.cons_append, List.nil_append]
    obtain ⟨c0, c1, c2⟩ := id w.rd
    have c3 := w.tm.1
    refine wr_aload_n rfl rfl rfl ?_
    refine wr_get (ci := 2) (f := 3) rfl rfl rfl (by assumption) rfl ?_
    refine wr_if_ne rfl rfl rfl (by omega) (fun c8 => by exfalso; omega) (fun c8 => ?_)
    refine wr_aload_n rfl rfl rfl ?_
    refine wr_get (ci := 2) (f := 6) rfl rfl rfl (by assumption) rfl ?_
    refine wr_iconst rfl rfl ?_
    refine wr_icmp_ge rfl rfl rfl (by omega) (by omega) (fun c16 => by exfalso; omega) (fun c16 => ?_)
    refine wr_aload_n rfl rfl rfl ?_
    refine wr_cv0 (k' := 23) (ci := 2) rfl rfl rfl rfl (by assumption) rfl rfl (wp_rsign w hn (by omega)) (fun r h2 q => ?_)
    obtain ⟨rfl, hh⟩ := q
    rw [hh]
    clear hh h2
    dsimp only [Option.toList, List.cons_append, List.nil_append]
    refine wr_bipush rfl rfl (by decide) ?_
    refine wr_icmp_eq rfl rfl rfl (by omega) (by omega) (fun c25 => ?_) (fun c25 => by exfalso; omega)
    refine wr_aload_n rfl rfl rfl ?_
    refine wr_dup rfl rfl ?_
    refine wr_get (ci := 2) (f := 2) rfl rfl rfl (by assumption) rfl ?_
    refine wr_iconst rfl rfl ?_
    refine wr_iadd rfl rfl ?_
    refine wr_putI (ci := 2) (f := 2) (fs' := [_, _, _, _, _, _, _]) rfl rfl rfl (by assumption) rfl rfl rfl (fun h1 e1 => ?_)
    have w := e1 ▸ w.r0 (skp T n p + 1) 0 op
    clear e1
    obtain ⟨c0, c1, c2⟩ := id w.rd
    have c3 := w.tm.1
    refine wr_vret rfl rfl ?_
    exact ⟨rfl, w⟩
  · rw [if_pos (Or.inr q)]
    have q2 : ¬ sgA T n (-1) (skp T n p) = 40 := fun x => q ((sgA_01 (T := T) (n := n) (p := skp T n p) (c := 40) (by decide)).mp x)
    refine wr_aload_n rfl rfl rfl ?_
    refine wr_cv0 (k' := 22) (ci := 2) rfl rfl rfl rfl (by assumption) rfl rfl (wp_skip w o hp) (fun r h2 q => ?_)
    obtain ⟨rfl, w⟩ := q
    dsimp only [Option.toList, List.cons_append, List.nil_append]
    obtain ⟨c0, c1, c2⟩ := id w.rd
    have c3 := w.tm.1
    refine wr_aload_n rfl rfl rfl ?_
    refine wr_get (ci := 2) (f := 3) rfl rfl rfl (by assumption) rfl ?_
    refine wr_if_ne rfl rfl rfl (by omega) (fun c8 => by exfalso; omega) (fun c8 => ?_)
    refine wr_aload_n rfl rfl rfl ?_
    refine wr_get (ci := 2) (f := 6) rfl rfl rfl (by assumption) rfl ?_
    refine wr_iconst rfl rfl ?_
    refine wr_icmp_ge rfl rfl rfl (by omega) (by omega) (fun c16 => by exfalso; omega) (fun c16 => ?_)
    refine wr_aload_n rfl rfl rfl ?_
    refine wr_cv0 (k' := 23) (ci := 2) rfl rfl rfl rfl (by assumption) rfl rfl (wp_rsign w hn (by omega)) (fun r h2 q => ?_)
    obtain ⟨rfl, hh⟩ := q
    rw [hh]
    clear hh h2
    dsimp only [Option.toList, List.cons_append, List.nil_append]
    refine wr_bipush rfl rfl (by decide) ?_
    refine wr_icmp_eq rfl rfl rfl (by omega) (by omega) (fun c25 => by exfalso; omega) (fun c25 => ?_)
    refine wr_aload_n rfl rfl rfl ?_
    refine wr_iconst rfl rfl ?_
    refine wr_putZ (ci := 2) (f := 3) (fs' := [_, _, _, _, _, _, _]) rfl rfl rfl (by assumption) rfl rfl (by decide) rfl (fun h1 e1 => ?_)
    have w := e1 ▸ w.r0 (skp T n p) 1 op
    clear e1
    obtain ⟨c0, c1, c2⟩ := id w.rd
    have c3 := w.tm.1
    refine wr_vret rfl rfl ?_
    exact ⟨rfl, w⟩
theorem wp_ropen1 {d : Nat} (w : PW h0 b t T n h m p 1 wt op) : am_c X (d + 2) 30 [.ref b] h (fun r h' => r = none ∧ PW h0 b t T n h' m p 1 wt op) := by
  obtain ⟨c0, c1, c2⟩ := id w.rd
  have c3 := w.tm.1
  refine am_c.of (Nat.le_of_ble_eq_true rfl) ?_
  show am_w _ _ _ (_, [_], _, _) _
  refine wr_aload_n rfl rfl rfl ?_
  refine wr_cv0 (k' := 22) (ci := 2) rfl rfl rfl rfl (by assumption) rfl rfl (wp_skip1 w) (fun r h2 q => ?_)
  obtain ⟨rfl, w⟩ := q
  dsimp only [Option.toList, List.cons_append, List.nil_append]
  obtain ⟨c0, c1, c2⟩ := id w.rd
  have c3 := w.tm.1
  refine wr_aload_n rfl rfl rfl ?_
  refine wr_get (ci := 2) (f := 3) rfl rfl rfl (by assumption) rfl ?_
  refine wr_if_ne rfl rfl rfl (by omega) (fun c8 => ?_) (fun c8 => by exfalso; omega)
  refine wr_aload_n rfl rfl rfl ?_
  refine wr_iconst rfl rfl ?_
  refine wr_putZ (ci := 2) (f := 3) (fs' := [_, _, _, _, _, _, _]) rfl rfl rfl (by assumption) rfl rfl (by decide) rfl (fun h1 e1 => ?_)
  have w := e1 ▸ w.r0 p 1 op
  clear e1
  obtain ⟨c0, c1, c2⟩ := id w.rd
  have c3 := w.tm.1
  refine wr_vret rfl rfl ?_
  exact ⟨rfl, w⟩
theorem wp_rwait {d j : Nat} (w : PW h0 b t T n h m p wr wt op) (ho : op < 5) : am_c X (d + 1) 33 [.ref b, .int (iI j)] h (fun r h' => r = none ∧ PW h0 b t T n h' m p wr (updI wt op j) (op + 1)) := by
  obtain ⟨c0, c1, c2⟩ := id w.rd
  have c3 := w.tm.1
  refine am_c.of (Nat.le_of_ble_eq_true rfl) ?_
  show am_w _ _ _ (_, [_, _], _, _) _
  refine wr_aload_n rfl rfl rfl ?_
  refine wr_get (ci := 2) (f := 6) rfl rfl rfl (by assumption) rfl ?_
  refine wr_aload_n rfl rfl rfl ?_
  refine wr_get (ci := 2) (f := 5) rfl rfl rfl (by assumption) rfl ?_
  refine wr_alen rfl rfl (by assumption) (by decide) ?_
  refine wr_icmp_ge rfl rfl rfl (by omega) (by omega) (fun c9 => by exfalso; omega) (fun c9 => ?_)
  refine wr_aload_n rfl rfl rfl ?_
  refine wr_get (ci := 2) (f := 5) rfl rfl rfl (by assumption) rfl ?_
  refine wr_aload_n rfl rfl rfl ?_
  refine wr_get (ci := 2) (f := 6) rfl rfl rfl (by assumption) rfl ?_
  refine wr_iload_n rfl rfl rfl ?_
  refine wr_iast rfl rfl (by assumption) (by omega) (by omega) (fun h1 e1 => ?_)
  have w := e1 ▸ w.r2 (updI wt op j)
  clear e1
  obtain ⟨c0, c1, c2⟩ := id w.rd
  have c3 := w.tm.1
  refine wr_aload_n rfl rfl rfl ?_
  refine wr_dup rfl rfl ?_
  refine wr_get (ci := 2) (f := 6) rfl rfl rfl (by assumption) rfl ?_
  refine wr_iconst rfl rfl ?_
  refine wr_iadd rfl rfl ?_
  refine wr_putI (ci := 2) (f := 6) (fs' := [_, _, _, _, _, _, _]) rfl rfl rfl (by assumption) rfl rfl rfl (fun h1 e1 => ?_)
  have w := e1 ▸ w.r0 p wr (op + 1)
  clear e1
  obtain ⟨c0, c1, c2⟩ := id w.rd
  have c3 := w.tm.1
  refine wr_vret rfl rfl ?_
  exact ⟨rfl, w⟩
theorem wp_rsnum {d : Nat} (w : PW h0 b t T n h m p 0 wt op) (o : okS T n) (hp : p ≤ n) : am_c X (d + 3) 43 [.ref b] h (numQ h0 b t T n m wt op (psnum T n p)) := by
  have hn := o.1
  have sk := skp_spec T n p
  have sn := sk.2.1 hp
  have zi := sgA_in (p := skp T n p) (e := -1) o (by decide)
  unfold psnum
  obtain ⟨c0, c1, c2⟩ := id w.rd
  have c3 := w.tm.1
  refine am_c.of (Nat.le_of_ble_eq_true rfl) ?_
  show am_w _ _ _ (_, [_], _, _) _
  by_cases q : sgA T n 0 (skp T n p) = 45
  · rw [if_pos q]
    have q2 := (sgA_01 (T := T) (n := n) (p := skp T n p) (c := 45) (by decide)).mpr q
    have ql := sgA_lt q (by decide)
    refine wr_aload_n rfl rfl rfl ?_
    refine wr_cv0 (k' := 22) (ci := 2) rfl rfl rfl rfl (by assumption) rfl rfl (wp_skip w o hp) (fun r h2 q => ?_)
    obtain ⟨rfl, w⟩ := q
    dsimp only [Option.toList, List.cons_append, List.nil_append]
    obtain ⟨c0, c1, c2⟩ := id w.rd
    have c3 := w.tm.1
    refine wr_aload_n rfl rfl rfl ?_
    refine wr_get (ci := 2) (f := 3) rfl rfl rfl (by assumption) rfl ?_
    refine wr_if_ne rfl rfl rfl (by omega) (fun c8 => by exfalso; omega) (fun c8 => ?_)
    refine wr_aload_n rfl rfl rfl ?_
    refine wr_cv0 (k' := 23) (ci := 2) rfl rfl rfl rfl (by assumption) rfl rfl (wp_rsign w hn (by omega)) (fun r h2 q => ?_)
    obtain ⟨rfl, hh⟩ := q
    rw [hh]
    clear hh h2
    dsimp only [Option.toList, List.cons_append, List.nil_append]
    refine wr_bipush rfl rfl (by decide) ?_
    refine wr_icmp_eq rfl rfl rfl (by omega) (by omega) (fun c17 => ?_) (fun c17 => by exfalso; omega)
    refine wr_aload_n rfl rfl rfl ?_
    refine wr_dup rfl rfl ?_
    refine wr_get (ci := 2) (f := 2) rfl rfl rfl (by assumption) rfl ?_
    refine wr_iconst rfl rfl ?_
    refine wr_iadd rfl rfl ?_
    refine wr_putI (ci := 2) (f := 2) (fs' := [_, _, _, _, _, _, _]) rfl rfl rfl (by assumption) rfl rfl rfl (fun h1 e1 => ?_)
    have w := e1 ▸ w.r0 (skp T n p + 1) 0 op
    clear e1
    obtain ⟨c0, c1, c2⟩ := id w.rd
    have c3 := w.tm.1
    refine wr_aload_n rfl rfl rfl ?_
    refine wr_iconst rfl rfl ?_
    refine wr_cv1 (k' := 40) (ci := 2) rfl rfl rfl rfl (by assumption) rfl rfl (wp_rnum w o (by omega) (Or.inl rfl)) (fun r h2 q => ?_)
    cases hP : pnum T n 0 (skp T n p + 1) with
    | error z =>
      rw [hP] at q
      obtain ⟨⟨v, rfl, v1, v2⟩, w⟩ := q
      dsimp only [Option.toList, List.cons_append, List.nil_append]
      refine wr_ineg rfl rfl ?_
      refine wr_iret rfl rfl ?_
      exact ⟨⟨_, rfl, by omega, by omega⟩, w⟩
    | ok vz =>
      obtain ⟨v, z⟩ := vz
      rw [hP] at q
      obtain ⟨rfl, w⟩ := q
      dsimp only [Option.toList, List.cons_append, List.nil_append]
      refine wr_ineg rfl rfl ?_
      refine wr_iret rfl rfl ?_
      exact ⟨rfl, w⟩
  · rw [if_neg q]
    have q2 : ¬ sgA T n (-1) (skp T n p) = 45 := fun x => q ((sgA_01 (T := T) (n := n) (p := skp T n p) (c := 45) (by decide)).mp x)
    refine wr_aload_n rfl rfl rfl ?_
    refine wr_cv0 (k' := 22) (ci := 2) rfl rfl rfl rfl (by assumption) rfl rfl (wp_skip w o hp) (fun r h2 q => ?_)
    obtain ⟨rfl, w⟩ := q
    dsimp only [Option.toList, List.cons_append, List.nil_append]
    obtain ⟨c0, c1, c2⟩ := id w.rd
    have c3 := w.tm.1
    refine wr_aload_n rfl rfl rfl ?_
    refine wr_get (ci := 2) (f := 3) rfl rfl rfl (by assumption) rfl ?_
    refine wr_if_ne rfl rfl rfl (by omega) (fun c8 => by exfalso; omega) (fun c8 => ?_)
    refine wr_aload_n rfl rfl rfl ?_
    refine wr_cv0 (k' := 23) (ci := 2) rfl rfl rfl rfl (by assumption) rfl rfl (wp_rsign w hn (by omega)) (fun r h2 q => ?_)
    obtain ⟨rfl, hh⟩ := q
    rw [hh]
    clear hh h2
    dsimp only [Option.toList, List.cons_append, List.nil_append]
    refine wr_bipush rfl rfl (by decide) ?_
    refine wr_icmp_eq rfl rfl rfl (by omega) (by omega) (fun c17 => by exfalso; omega) (fun c17 => ?_)
    refine wr_aload_n rfl rfl rfl ?_
    refine wr_iconst rfl rfl ?_
    refine wr_cv1 (k' := 40) (ci := 2) rfl rfl rfl rfl (by assumption) rfl rfl (wp_rnum w o (by omega) (Or.inl rfl)) (fun r h2 q => ?_)
    cases hP : pnum T n 0 (skp T n p) with
    | error z =>
      rw [hP] at q
      obtain ⟨⟨v, rfl, v1, v2⟩, w⟩ := q
      dsimp only [Option.toList, List.cons_append, List.nil_append]
      refine wr_iret rfl rfl ?_
      exact ⟨⟨_, rfl, by omega, by omega⟩, w⟩
    | ok vz =>
      obtain ⟨v, z⟩ := vz
      rw [hP] at q
      obtain ⟨rfl, w⟩ := q
      dsimp only [Option.toList, List.cons_append, List.nil_append]
      refine wr_iret rfl rfl ?_
      exact ⟨rfl, w⟩
theorem wp_rsnum1 {d : Nat} (w : PW h0 b t T n h m p 1 wt op) : am_c X (d + 3) 43 [.ref b] h (fun r h' => r = some (.int (iI 0)) ∧ PW h0 b t T n h' m p 1 wt op) := by
  obtain ⟨c0, c1, c2⟩ := id w.rd
  have c3 := w.tm.1
  refine am_c.of (Nat.le_of_ble_eq_true rfl) ?_
  show am_w _ _ _ (_, [_], _, _) _
  refine wr_aload_n rfl rfl rfl ?_
  refine wr_cv0 (k' := 22) (ci := 2) rfl rfl rfl rfl (by assumption) rfl rfl (wp_skip1 w) (fun r h2 q => ?_)
  obtain ⟨rfl, w⟩ := q
  dsimp only [Option.toList, List.cons_append, List.nil_append]
  obtain ⟨c0, c1, c2⟩ := id w.rd
  have c3 := w.tm.1
  refine wr_aload_n rfl rfl rfl ?_
  refine wr_get (ci := 2) (f := 3) rfl rfl rfl (by assumption) rfl ?_
  refine wr_if_ne rfl rfl rfl (by omega) (fun c8 => ?_) (fun c8 => by exfalso; omega)
  refine wr_aload_n rfl rfl rfl ?_
  refine wr_iconst rfl rfl ?_
  refine wr_cv1 (k' := 40) (ci := 2) rfl rfl rfl rfl (by assumption) rfl rfl (wp_rnum1 w) (fun r h2 q => ?_)
  obtain ⟨rfl, w⟩ := q
  dsimp only [Option.toList, List.cons_append, List.nil_append]
  obtain ⟨c0, c1, c2⟩ := id w.rd
  have c3 := w.tm.1
  refine wr_iret rfl rfl ?_
  exact ⟨rfl, w⟩
def ptOf (m : Tm) (wt : Nat → Int) (op : Nat) : PT := ⟨m.kd, m.fi, m.se, m.ta, m.od, m.st, wt, op⟩
def setT (m : Tm) (s : PT) : Tm := (Tm.mk (s.kd) (s.fi) (s.se) (s.ta) m.en (s.od) (s.st) m.sz)
def itQ (h0 : am_H) (b t : Nat) (T : Nat → Int) (n : Nat) (m : Tm) (P : PR PT) (r : Option Value) (h' : am_H) : Prop := r = none ∧ match P with
  | .error q => ∃ m' wt' op', PW h0 b t T n h' m' q 1 wt' op'
  | .ok (s, q) => PW h0 b t T n h' (setT m s) q 0 s.wt s.op
theorem wp_rchoice {d : Nat} (w : PW h0 b t T n h m p 0 wt op) (o : okS T n) (hp : p ≤ n) (ho : op ≤ 5) (hm : m.od < 144) : am_c X (d + 3) 38 [.ref b] h (itQ h0 b t T n m (pchoice T n (ptOf m wt op) p)) := by
  have hn := o.1
  have sk := skp_spec T n p
  have sn := sk.2.1 hp
  have zi := sgA_in (p := skp T n p) (e := -1) o (by decide)
  have kc := condB_cases (sgA T n 0 (skp T n p))
  have kl : condB (sgA T n 0 (skp T n p)) ≠ -1 → skp T n p < n := fun x => Decidable.byContradiction fun y => by rw [sgA_out y] at x; exact x rfl
  unfold pchoice
  obtain ⟨k, ek⟩ : ∃ k, k = condB (sgA T n 0 (skp T n p)) := ⟨_, rfl⟩
  rw [← ek] at kc kl ⊢
  have kin : -1 ≤ k ∧ k ≤ 9 := by omega
  clear kc
  obtain ⟨c0, c1, c2⟩ := id w.rd
  have c3 := w.tm.1
  refine am_c.of (Nat.le_of_ble_eq_true rfl) ?_
  show am_w _ _ _ (_, [_, _, _], _, _) _
  by_cases q : k = -1
  · rw [if_pos q]
    refine wr_aload_n rfl rfl rfl ?_
    refine wr_cv0 (k' := 22) (ci := 2) rfl rfl rfl rfl (by assumption) rfl rfl (wp_skip w o hp) (fun r h2 q => ?_)
    obtain ⟨rfl, w⟩ := q
    dsimp only [Option.toList, List.cons_append, List.nil_append]
    obtain ⟨c0, c1, c2⟩ := id w.rd
    have c3 := w.tm.1
    refine wr_aload_n rfl rfl rfl ?_
    refine wr_cv0 (k' := 23) (ci := 2) rfl rfl rfl rfl (by assumption) rfl rfl (wp_rsign w hn (by omega)) (fun r h2 q => ?_)
    obtain ⟨rfl, hh⟩ := q
    rw [hh]
    clear hh h2
    dsimp only [Option.toList, List.cons_append, List.nil_append]
    refine wr_cs1 (k' := 39) rfl rfl rfl rfl rfl (wp_condBy (by omega)) (fun r h2 q => ?_)
    obtain ⟨rfl, hh⟩ := q
    rw [hh]
    clear hh h2
    dsimp only [Option.toList, List.cons_append, List.nil_append]
    rw [condB_01, ← ek]
    refine wr_istore_n (ls' := [_, _, _]) rfl rfl (Nat.le_of_ble_eq_true rfl) rfl ?_
    refine wr_iload_n rfl rfl rfl ?_
    refine wr_iconst rfl rfl ?_
    refine wr_icmp_ne rfl rfl rfl (by omega) (by omega) (fun c14 => by exfalso; omega) (fun c14 => ?_)
    refine wr_aload_n rfl rfl rfl ?_
    refine wr_iconst rfl rfl ?_
    refine wr_putZ (ci := 2) (f := 3) (fs' := [_, _, _, _, _, _, _]) rfl rfl rfl (by assumption) rfl rfl (by decide) rfl (fun h1 e1 => ?_)
    have w := e1 ▸ w.r0 (skp T n p) 1 op
    clear e1
    obtain ⟨c0, c1, c2⟩ := id w.rd
    have c3 := w.tm.1
    refine wr_vret rfl rfl ?_
    exact ⟨rfl, _, _, _, w⟩
  rw [if_neg q]
  have kl := kl q
  refine wr_aload_n rfl rfl rfl ?_
  refine wr_cv0 (k' := 22) (ci := 2) rfl rfl rfl rfl (by assumption) rfl rfl (wp_skip w o hp) (fun r h2 q => ?_)
  obtain ⟨rfl, w⟩ := q
  dsimp only [Option.toList, List.cons_append, List.nil_append]
  obtain ⟨c0, c1, c2⟩ := id w.rd
  have c3 := w.tm.1
  refine wr_aload_n rfl rfl rfl ?_
  refine wr_cv0 (k' := 23) (ci := 2) rfl rfl rfl rfl (by assumption) rfl rfl (wp_rsign w hn (by omega)) (fun r h2 q => ?_)
  obtain ⟨rfl, hh⟩ := q
  rw [hh]
  clear hh h2
  dsimp only [Option.toList, List.cons_append, List.nil_append]
  refine wr_cs1 (k' := 39) rfl rfl rfl rfl rfl (wp_condBy (by omega)) (fun r h2 q => ?_)
  obtain ⟨rfl, hh⟩ := q
  rw [hh]
  clear hh h2
  dsimp only [Option.toList, List.cons_append, List.nil_append]
  rw [condB_01, ← ek]
  refine wr_istore_n (ls' := [_, _, _]) rfl rfl (Nat.le_of_ble_eq_true rfl) rfl ?_
  refine wr_iload_n rfl rfl rfl ?_
  refine wr_iconst rfl rfl ?_
  refine wr_icmp_ne rfl rfl rfl (by omega) (by omega) (fun c14 => ?_) (fun c14 => by exfalso; omega)
  refine wr_aload_n rfl rfl rfl ?_
  refine wr_dup rfl rfl ?_
  refine wr_get (ci := 2) (f := 2) rfl rfl rfl (by assumption) rfl ?_
  refine wr_iconst rfl rfl ?_
  refine wr_iadd rfl rfl ?_
  refine wr_putI (ci := 2) (f := 2) (fs' := [_, _, _, _, _, _, _]) rfl rfl rfl (by assumption) rfl rfl rfl (fun h1 e1 => ?_)
  have w := e1 ▸ w.r0 (skp T n p + 1) 0 op
  clear e1
  obtain ⟨c0, c1, c2⟩ := id w.rd
  have c3 := w.tm.1
  have K : ∀ (f : Int) (r : Nat) (h : am_H), pfar T n k (skp T n p + 1) = .ok (f, r) → PW h0 b t T n h m r 0 wt op → am_w X (d + 2) 38 (49, [.ref b, .int (iI k), .int (iI f)], [], h) (itQ h0 b t T n m (match popn T n op r with | .error z => .error z | .ok (_, z) => .ok ((((ptOf m wt op).step k f 0).push m.od), z))) := by
    intro f r0 h hf w
    have fb := pfar_ok (by omega) hf
    obtain ⟨c0, c1, c2⟩ := id w.rd
    have c3 := w.tm.1
    refine wr_aload_n rfl rfl rfl ?_
    refine wr_cv0 (k' := 30) (ci := 2) rfl rfl rfl rfl (by assumption) rfl rfl (wp_ropen w o (by omega) ho) (fun r h2 q => ?_)
    cases hP : popn T n op r0 with
    | error z =>
      rw [hP] at q
      obtain ⟨rfl, w⟩ := q
      dsimp only [Option.toList, List.nil_append] at w ⊢
      obtain ⟨c0, c1, c2⟩ := id w.rd
      have c3 := w.tm.1
      refine wr_aload_n rfl rfl rfl ?_
      refine wr_get (ci := 2) (f := 3) rfl rfl rfl (by assumption) rfl ?_
      refine wr_if_ne rfl rfl rfl (by omega) (fun c57 => ?_) (fun c57 => by exfalso; omega)
      refine wr_vret rfl rfl ?_
      exact ⟨rfl, _, _, _, w⟩
    | ok vz =>
      obtain ⟨_, z⟩ := vz
      rw [hP] at q
      have pb := popn_ok (by omega) hP
      obtain ⟨rfl, w⟩ := q
      dsimp only [Option.toList, List.nil_append] at w ⊢
      obtain ⟨c0, c1, c2⟩ := id w.rd
      have c3 := w.tm.1
      refine wr_aload_n rfl rfl rfl ?_
      refine wr_get (ci := 2) (f := 3) rfl rfl rfl (by assumption) rfl ?_
      refine wr_if_ne rfl rfl rfl (by omega) (fun c57 => by exfalso; omega) (fun c57 => ?_)
      refine wr_aload_n rfl rfl rfl ?_
      refine wr_aload_n rfl rfl rfl ?_
      refine wr_get (ci := 2) (f := 4) rfl rfl rfl (by assumption) rfl ?_
      refine wr_iload_n rfl rfl rfl ?_
      refine wr_iload_n rfl rfl rfl ?_
      refine wr_iconst rfl rfl ?_
      refine wr_cv3 (k' := 42) (ci := 1) rfl rfl rfl rfl (by assumption) rfl rfl (wp_tstep w.tm hm) (fun r h2 q => ?_)
      obtain ⟨rfl, tm2, f2⟩ := q
      have w := w.to tm2 f2
      dsimp only [Option.toList, List.cons_append, List.nil_append]
      obtain ⟨c0, c1, c2⟩ := id w.rd
      have c3 := w.tm.1
      refine wr_cv1 (k' := 33) (ci := 2) rfl rfl rfl rfl (by assumption) rfl rfl (wp_rwait w pb.2.2) (fun r h2 q => ?_)
      obtain ⟨rfl, w⟩ := q
      dsimp only [Option.toList, List.nil_append]
      refine wr_vret rfl rfl ?_
      exact ⟨rfl, w⟩
  show am_w _ _ _ _ (itQ h0 b t T n m (match pfar T n k (skp T n p + 1) with | .error z => .error z | .ok (f, z) => match popn T n op z with | .error r => .error r | .ok (_, r) => .ok ((((ptOf m wt op).step k f 0).push m.od), r)))
  by_cases q9 : k = 9
  · have ef : pfar T n k (skp T n p + 1) = pnum T n 0 (skp T n p + 1) := by unfold pfar; rw [if_pos q9]
    refine wr_iload_n rfl rfl rfl ?_
    refine wr_bipush rfl rfl (by decide) ?_
    refine wr_icmp_ne rfl rfl rfl (by omega) (by omega) (fun c36 => by exfalso; omega) (fun c36 => ?_)
    refine wr_aload_n rfl rfl rfl ?_
    refine wr_iconst rfl rfl ?_
    refine wr_cv1 (k' := 40) (ci := 2) rfl rfl rfl rfl (by assumption) rfl rfl (wp_rnum w o (by omega) (Or.inl rfl)) (fun r h2 q => ?_)
    cases hP : pnum T n 0 (skp T n p + 1) with
    | error z =>
      rw [hP] at q
      rw [ef, hP]
      obtain ⟨⟨v, rfl, v1, v2⟩, w⟩ := q
      dsimp only [Option.toList, List.cons_append, List.nil_append]
      obtain ⟨c0, c1, c2⟩ := id w.rd
      have c3 := w.tm.1
      refine wr_goto rfl rfl ?_
      refine wr_istore_n (ls' := [_, _, _]) rfl rfl (Nat.le_of_ble_eq_true rfl) rfl ?_
      refine wr_aload_n rfl rfl rfl ?_
      refine wr_cv0 (k' := 30) (ci := 2) rfl rfl rfl rfl (by assumption) rfl rfl (wp_ropen1 w) (fun r h2 q => ?_)
      obtain ⟨rfl, w⟩ := q
      dsimp only [Option.toList, List.cons_append, List.nil_append]
      obtain ⟨c0, c1, c2⟩ := id w.rd
      have c3 := w.tm.1
      refine wr_aload_n rfl rfl rfl ?_
      refine wr_get (ci := 2) (f := 3) rfl rfl rfl (by assumption) rfl ?_
      refine wr_if_ne rfl rfl rfl (by omega) (fun c57 => ?_) (fun c57 => by exfalso; omega)
      refine wr_vret rfl rfl ?_
      exact ⟨rfl, _, _, _, w⟩
    | ok vz =>
      obtain ⟨v, z⟩ := vz
      rw [hP] at q
      obtain ⟨rfl, w⟩ := q
      dsimp only [Option.toList, List.cons_append, List.nil_append]
      refine wr_goto rfl rfl ?_
      refine wr_istore_n (ls' := [_, _, _]) rfl rfl (Nat.le_of_ble_eq_true rfl) rfl ?_
      rw [ef, hP]
      exact K v z _ (ef.trans hP) w
  · have ef : pfar T n k (skp T n p + 1) = .ok (0, (skp T n p + 1)) := by unfold pfar; rw [if_neg q9]
    refine wr_iload_n rfl rfl rfl ?_
    refine wr_bipush rfl rfl (by decide) ?_
    refine wr_icmp_ne rfl rfl rfl (by omega) (by omega) (fun c36 => ?_) (fun c36 => by exfalso; omega)
    refine wr_iconst rfl rfl ?_
    refine wr_istore_n (ls' := [_, _, _]) rfl rfl (Nat.le_of_ble_eq_true rfl) rfl ?_
    rw [ef]
    exact K 0 _ _ ef w
end RDR
