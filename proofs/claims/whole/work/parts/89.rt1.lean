/-! THE REFERENCE'S AREAS: section, gap, half -/
section RTB
variable {X : Nat × (Nat → Int32)} {h0 h h' : am_H} {o o' : Nat → Int} {A A' : Nat → Nat → Int} {F F0 F' : Nat → Rat} {n : Nat} {off lev : Nat → Int}
/-- the straight line through (a, u) and (b, v) at x -/
def lnQ (a b u v x : Rat) : Rat := u + (v - u) / (b - a) * (x - a)
theorem num_nz {q : Rat} (h : q ≠ 0) : q.num ≠ 0 := fun e => h (Rat.num_eq_zero.mp e)
theorem rr_sectionAt {d f k to : Nat} {a b u v x : Rat} (W : FW h0 h o F0 A) (hk : k ≤ 23) (hf : f < 125) (hto : to < 125) (f1 : f ≠ 106 ∧ f ≠ 107) (va : F0 k = a) (vb : F0 (k + 1) = b) (vu : F0 (26 + k) = u) (vv : F0 (26 + k + 1) = v) (vx : F0 f = x) (qa : qB 3 a) (qb : qB 3 b) (qu : qB 14 u) (qv : qB 14 v) (qx : qB 3 x) (ab : a < b) : am_c X (d + 7) 190 [.ref 164, .int (iI k), .int (iI f), .int (iI to)] h (fun r h' => r = none ∧ ∃ F', FW h0 h' o F' A ∧ F' to = lnQ a b u v x ∧ qB 60 (lnQ a b u v x) ∧ ∀ g, g ≠ to → g ≠ 106 → g ≠ 107 → F' g = F0 g) := by
  have w := W
  have cO := w.cO
  have e0 : (0 : Int) + (k : Int) = (k : Int) := by omega
  have e1k : (k : Int) + 1 = ((k + 1 : Nat) : Int) := by omega
  have e26 : (26 : Int) + (k : Int) = ((26 + k : Nat) : Int) := by omega
  have e27 : ((26 + k : Nat) : Int) + 1 = ((26 + k + 1 : Nat) : Int) := by omega
  refine am_c.of (Nat.le_of_ble_eq_true rfl) ?_
  show am_w _ _ _ (_, [_, _, _, _], _, _) _
  refine wr_aload_n rfl rfl rfl ?_
  refine wr_bipush rfl rfl (by decide) ?_
  refine wr_iconst rfl rfl ?_
  refine wr_iload_n rfl rfl rfl ?_
  refine wr_iadd rfl rfl ?_
  rw [e0]
  refine wr_iconst rfl rfl ?_
  refine wr_iadd rfl rfl ?_
  rw [e1k]
  refine wr_iconst rfl rfl ?_
  refine wr_iload_n rfl rfl rfl ?_
  refine wr_iadd rfl rfl ?_
  rw [e0]
  refine wr_cv3 (k' := 181) (ci := 12) rfl rfl rfl rfl (by assumption) rfl rfl (fw_take (f := 106) (a := k + 1) (b := k) (P := 3) (R := 3) w (by decide) (by omega) (by omega) (by rw [vb]; exact qb) (by rw [va]; exact qa) (by decide)) (fun r h2 q => ?_)
  obtain ⟨rfl, w⟩ := q
  obtain ⟨F2, w, s2, m2⟩ := ff_ex w
  rw [va, vb] at s2
  have cO := w.cO
  have q2 : qB (3 + 3 + 1) (F2 106) := by rw [s2]; exact qb.sub qa
  refine wr_aload_n rfl rfl rfl ?_
  refine wr_bipush rfl rfl (by decide) ?_
  refine wr_bipush rfl rfl (by decide) ?_
  refine wr_iload_n rfl rfl rfl ?_
  refine wr_iadd rfl rfl ?_
  rw [e26]
  refine wr_iconst rfl rfl ?_
  refine wr_iadd rfl rfl ?_
  rw [e27]
  refine wr_bipush rfl rfl (by decide) ?_
  refine wr_iload_n rfl rfl rfl ?_
  refine wr_iadd rfl rfl ?_
  rw [e26]
  refine wr_cv3 (k' := 181) (ci := 12) rfl rfl rfl rfl (by assumption) rfl rfl (fw_take (f := 107) (a := 26 + k + 1) (b := 26 + k) (P := 14) (R := 14) w (by decide) (by omega) (by omega) (by rw [m2 _ (by omega), vv]; exact qv) (by rw [m2 _ (by omega), vu]; exact qu) (by decide)) (fun r h2 q => ?_)
  obtain ⟨rfl, w⟩ := q
  obtain ⟨F3, w, s3, m3⟩ := ff_ex w
  rw [m2 _ (by omega), m2 _ (by omega), vv, vu] at s3
  have cO := w.cO
  have q3 : qB (14 + 14 + 1) (F3 107) := by rw [s3]; exact qv.sub qu
  have q3' : qB (3 + 3 + 1) (F3 106) := by rw [m3 106 (by decide)]; exact q2
  have nz : (F3 106).num ≠ 0 := by rw [m3 106 (by decide), s2]; exact num_nz (by grind)
  refine wr_aload_n rfl rfl rfl ?_
  refine wr_bipush rfl rfl (by decide) ?_
  refine wr_bipush rfl rfl (by decide) ?_
  refine wr_bipush rfl rfl (by decide) ?_
  refine wr_cv3 (k' := 191) (ci := 12) rfl rfl rfl rfl (by assumption) rfl rfl (fw_over (f := 107) (a := 107) (b := 106) w (by decide) (by decide) (by decide) q3 q3' (by decide) nz) (fun r h2 q => ?_)
  obtain ⟨rfl, w⟩ := q
  obtain ⟨F4, w, s4, m4⟩ := ff_ex w
  have cO := w.cO
  have q4 : qB (14 + 14 + 1 + (3 + 3 + 1)) (F4 107) := by rw [s4]; exact q3.quo q3' nz
  refine wr_aload_n rfl rfl rfl ?_
  refine wr_bipush rfl rfl (by decide) ?_
  refine wr_iload_n rfl rfl rfl ?_
  refine wr_iconst rfl rfl ?_
  refine wr_iload_n rfl rfl rfl ?_
  refine wr_iadd rfl rfl ?_
  rw [e0]
  refine wr_cv3 (k' := 181) (ci := 12) rfl rfl rfl rfl (by assumption) rfl rfl (fw_take (f := 106) (a := f) (b := k) (P := 3) (R := 3) w (by decide) hf (by omega) (by rw [m4 f f1.2, m3 f f1.2, m2 f f1.1, vx]; exact qx) (by rw [m4 k (by omega), m3 k (by omega), m2 k (by omega), va]; exact qa) (by decide)) (fun r h2 q => ?_)
  obtain ⟨rfl, w⟩ := q
  obtain ⟨F5, w, s5, m5⟩ := ff_ex w
  rw [m4 f f1.2, m3 f f1.2, m2 f f1.1, vx, m4 k (by omega), m3 k (by omega), m2 k (by omega), va] at s5
  have cO := w.cO
  have q5 : qB (3 + 3 + 1) (F5 106) := by rw [s5]; exact qx.sub qa
  have q5' : qB (14 + 14 + 1 + (3 + 3 + 1)) (F5 107) := by rw [m5 107 (by decide)]; exact q4
  refine wr_aload_n rfl rfl rfl ?_
  refine wr_bipush rfl rfl (by decide) ?_
  refine wr_bipush rfl rfl (by decide) ?_
  refine wr_bipush rfl rfl (by decide) ?_
  refine wr_cv3 (k' := 176) (ci := 12) rfl rfl rfl rfl (by assumption) rfl rfl (fw_times (f := 107) (a := 107) (b := 106) w (by decide) (by decide) (by decide) q5' q5 (by decide)) (fun r h2 q => ?_)
  obtain ⟨rfl, w⟩ := q
  obtain ⟨F6, w, s6, m6⟩ := ff_ex w
  have cO := w.cO
  have q6 : qB (14 + 14 + 1 + (3 + 3 + 1) + (3 + 3 + 1)) (F6 107) := by rw [s6]; exact q5'.mul q5
  have v6 : F6 (26 + k) = u := by rw [m6 _ (by omega), m5 _ (by omega), m4 _ (by omega), m3 _ (by omega), m2 _ (by omega), vu]
  have q6' : qB 14 (F6 (26 + k)) := by rw [v6]; exact qu
  refine wr_aload_n rfl rfl rfl ?_
  refine wr_iload_n rfl rfl rfl ?_
  refine wr_bipush rfl rfl (by decide) ?_
  refine wr_iload_n rfl rfl rfl ?_
  refine wr_iadd rfl rfl ?_
  rw [e26]
  refine wr_bipush rfl rfl (by decide) ?_
  refine wr_cv3 (k' := 178) (ci := 12) rfl rfl rfl rfl (by assumption) rfl rfl (fw_add (f := to) (a := 26 + k) (b := 107) w hto (by omega) (by decide) q6' q6 (by decide)) (fun r h2 q => ?_)
  obtain ⟨rfl, w⟩ := q
  obtain ⟨F7, w, s7, m7⟩ := ff_ex w
  refine wr_vret rfl rfl ?_
  have val : F6 (26 + k) + F6 107 = lnQ a b u v x := by
    rw [v6, s6, m5 107 (by decide), s4, s3, m3 106 (by decide), s2, s5]
    rfl
  refine ⟨rfl, F7, w, by rw [s7, val], ?_, fun g a b c => by rw [m7 g a, m6 g c, m5 g b, m4 g c, m3 g c, m2 g b]⟩
  rw [← val]
  have t := q6'.add q6
  exact t.mono (by decide)
theorem rr_between {d f k to : Nat} {a b u v x : Rat} (W : FW h0 h o F0 A) (g : RG n off lev o A) (ok : okG n off lev) (hk : k ≤ 23) (hf : f < 104) (hto : to < 104) (va : F0 k = a) (vb : F0 (k + 1) = b) (vu : F0 (26 + k) = u) (vv : F0 (26 + k + 1) = v) (vx : F0 f = x) (qa : qB 3 a) (qb : qB 3 b) (qu : qB 14 u) (qv : qB 14 v) (qx : qB 3 x) (ab : a < b) : am_c X (d + 8) 188 [.ref 164, .int (iI k), .int (iI f), .int (iI to)] h (fun r h' => r = none ∧ ∃ F', FW h0 h' o F' A ∧ F' to = GrQ n off lev x - lnQ a b u v x ∧ ∀ g, g ≠ to → (g < 104 ∨ 109 < g) → F' g = F0 g) := by
  have w := W
  have cO := w.cO
  refine am_c.of (Nat.le_of_ble_eq_true rfl) ?_
  show am_w _ _ _ (_, [_, _, _, _], _, _) _
  refine wr_aload_n rfl rfl rfl ?_
  refine wr_iload_n rfl rfl rfl ?_
  refine wr_bipush rfl rfl (by decide) ?_
  refine wr_cv2 (k' := 189) (ci := 12) rfl rfl rfl rfl (by assumption) rfl rfl (rr_groundAt (f := f) (to := 108) w g ok (by omega) (by decide) (by omega) vx qx) (fun r h2 q => ?_)
  obtain ⟨rfl, F2, w, s2, q2, m2⟩ := q
  have cO := w.cO
  refine wr_aload_n rfl rfl rfl ?_
  refine wr_iload_n rfl rfl rfl ?_
  refine wr_iload_n rfl rfl rfl ?_
  refine wr_bipush rfl rfl (by decide) ?_
  refine wr_cv3 (k' := 190) (ci := 12) rfl rfl rfl rfl (by assumption) rfl rfl (rr_sectionAt (f := f) (k := k) (to := 109) w hk (by omega) (by decide) (by omega) ((m2 _ (by omega) (by omega) (by omega)).trans va) ((m2 _ (by omega) (by omega) (by omega)).trans vb) ((m2 _ (by omega) (by omega) (by omega)).trans vu) ((m2 _ (by omega) (by omega) (by omega)).trans vv) ((m2 _ (by omega) (by omega) (by omega)).trans vx) qa qb qu qv qx ab) (fun r h2 q => ?_)
  obtain ⟨rfl, F3, w, s3, q3, m3⟩ := q
  have cO := w.cO
  have v3 : F3 108 = GrQ n off lev x := by rw [m3 108 (by decide) (by decide) (by decide), s2]
  refine wr_aload_n rfl rfl rfl ?_
  refine wr_iload_n rfl rfl rfl ?_
  refine wr_bipush rfl rfl (by decide) ?_
  refine wr_bipush rfl rfl (by decide) ?_
  refine wr_cv3 (k' := 181) (ci := 12) rfl rfl rfl rfl (by assumption) rfl rfl (fw_take (f := to) (a := 108) (b := 109) (P := 14) (R := 60) w (by omega) (by decide) (by decide) (by rw [v3]; exact q2) (by rw [s3]; exact q3) (by decide)) (fun r h2 q => ?_)
  obtain ⟨rfl, w⟩ := q
  obtain ⟨F4, w, s4, m4⟩ := ff_ex w
  refine wr_vret rfl rfl ?_
  exact ⟨rfl, F4, w, by rw [s4, v3, s3], fun g a b => by rw [m4 g a, m3 g (by omega) (by omega) (by omega), m2 g (by omega) (by omega) (by omega)]⟩
def hfQ (p : Rat) : Rat := if p < 0 then -(p / 2) else p / 2
theorem rr_addHalf {d t a b P R : Nat} {x y : Rat} (W : FW h0 h o F0 A) (ht : t < 104) (ha : a < 104) (hb : b < 104) (vx : F0 a = x) (vy : F0 b = y) (qx : qB P x) (qy : qB R y) (qt : qB 97 (F0 t)) (hPR : P + R ≤ 100) : am_c X (d + 7) 192 [.ref 164, .int (iI t), .int (iI a), .int (iI b)] h (fun r h' => r = none ∧ ∃ F', FW h0 h' o F' A ∧ F' t = F0 t + hfQ (x * y) ∧ ∀ g, g ≠ t → g ≠ 110 → g ≠ 111 → F' g = F0 g) := by
  have w := W
  have cO := w.cO
  refine am_c.of (Nat.le_of_ble_eq_true rfl) ?_
  show am_w _ _ _ (_, [_, _, _, _], _, _) _
  refine wr_aload_n rfl rfl rfl ?_
  refine wr_bipush rfl rfl (by decide) ?_
  refine wr_iload_n rfl rfl rfl ?_
  refine wr_iload_n rfl rfl rfl ?_
  refine wr_cv3 (k' := 176) (ci := 12) rfl rfl rfl rfl (by assumption) rfl rfl (fw_times (f := 110) (a := a) (b := b) (P := P) (R := R) w (by decide) (by omega) (by omega) (by rw [vx]; exact qx) (by rw [vy]; exact qy) (by omega)) (fun r h2 q => ?_)
  obtain ⟨rfl, w⟩ := q
  obtain ⟨F2, w, s2, m2⟩ := ff_ex w
  rw [vx, vy] at s2
  have cO := w.cO
  have q2 : qB (P + R) (F2 110) := by rw [s2]; exact qx.mul qy
  obtain ⟨S, cS, hS⟩ := w.sg
  obtain ⟨sr, sn, -⟩ := hS 110 (by decide)
  have J : ∀ (v : Int) (h2 : am_H) (F3 : Nat → Rat), (v = 1 ∨ v = -1) → hfQ (x * y) = x * y * Rat.divInt v 2 → FW h0 h2 o F3 A → F3 111 = Rat.divInt v 2 → (∀ g, g ≠ 111 → F3 g = F2 g) → am_w X (d + 6) 192 (34, [.ref 164, .int (iI t), .int (iI a), .int (iI b)], [], h2) (fun r h' => r = none ∧ ∃ F', FW h0 h' o F' A ∧ F' t = F0 t + hfQ (x * y) ∧ ∀ g, g ≠ t → g ≠ 110 → g ≠ 111 → F' g = F0 g) := by
    intro v h2 F3 hv ev w s3 m3
    have cO := w.cO
    have q3 : qB 3 (F3 111) := by rw [s3]; exact qB.long (by omega) (by decide)
    have q3' : qB (P + R) (F3 110) := by rw [m3 110 (by decide)]; exact q2
    refine wr_aload_n rfl rfl rfl ?_
    refine wr_bipush rfl rfl (by decide) ?_
    refine wr_bipush rfl rfl (by decide) ?_
    refine wr_bipush rfl rfl (by decide) ?_
    refine wr_cv3 (k' := 176) (ci := 12) rfl rfl rfl rfl (by assumption) rfl rfl (fw_times (f := 110) (a := 110) (b := 111) w (by decide) (by decide) (by decide) q3' q3 (by omega)) (fun r h2 q => ?_)
    obtain ⟨rfl, w⟩ := q
    obtain ⟨F4, w, s4, m4⟩ := ff_ex w
    have cO := w.cO
    have q4 : qB (P + R + 3) (F4 110) := by rw [s4]; exact q3'.mul q3
    have v4 : F4 t = F0 t := by rw [m4 t (by omega), m3 t (by omega), m2 t (by omega)]
    refine wr_aload_n rfl rfl rfl ?_
    refine wr_iload_n rfl rfl rfl ?_
    refine wr_iload_n rfl rfl rfl ?_
    refine wr_bipush rfl rfl (by decide) ?_
    refine wr_cv3 (k' := 178) (ci := 12) rfl rfl rfl rfl (by assumption) rfl rfl (fw_add (f := t) (a := t) (b := 110) (P := 97) w (by omega) (by omega) (by decide) (by rw [v4]; exact qt) q4 (by omega)) (fun r h2 q => ?_)
    obtain ⟨rfl, w⟩ := q
    obtain ⟨F5, w, s5, m5⟩ := ff_ex w
    refine wr_vret rfl rfl ?_
    exact ⟨rfl, F5, w, by rw [s5, v4, s4, m3 110 (by decide), s2, s3, ev], fun g a b c => by rw [m5 g a, m4 g b, m3 g c, m2 g b]⟩
  rw [s2] at sn
  by_cases c : x * y < 0
  · have c0 : S 110 < 0 := sn.mpr c
    refine wr_aload_n rfl rfl rfl ?_
    refine wr_bipush rfl rfl (by decide) ?_
    refine wr_aload_n rfl rfl rfl ?_
    refine wr_get (ci := 12) (f := 2) rfl rfl rfl (by assumption) rfl ?_
    refine wr_bipush rfl rfl (by decide) ?_
    refine wr_iald rfl rfl (by assumption) (by omega) (by omega) ?_
    rw [show ((110 : Int)).toNat = 110 from rfl]
    refine wr_if_ge rfl rfl rfl (by omega) (fun c18 => by exfalso; omega) (fun c18 => ?_)
    refine wr_ldc2 (z := -1) rfl rfl rfl (by decide) ?_
    refine wr_goto rfl rfl ?_
    refine wr_ldc2 (z := 2) rfl rfl rfl (by decide) ?_
    refine wr_cv3 (k' := 140) (ci := 12) rfl rfl rfl rfl (by assumption) rfl rfl (fw_set (f := 111) (u := -1) (v := 2) w (by decide) (by decide) (by decide) (by decide)) (fun r h2 q => ?_)
    obtain ⟨rfl, w⟩ := q
    obtain ⟨F3, w, s3, m3⟩ := ff_ex w
    exact J (-1) _ F3 (Or.inr rfl) (by unfold hfQ; rw [if_pos c, divQ]; have e1 : (((-1 : Int)) : Rat) = -1 := rfl; have e2 : (((2 : Int)) : Rat) = 2 := rfl; rw [e1, e2]; grind) w s3 m3
  · have c0 : ¬ S 110 < 0 := fun q => c (sn.mp q)
    refine wr_aload_n rfl rfl rfl ?_
    refine wr_bipush rfl rfl (by decide) ?_
    refine wr_aload_n rfl rfl rfl ?_
    refine wr_get (ci := 12) (f := 2) rfl rfl rfl (by assumption) rfl ?_
    refine wr_bipush rfl rfl (by decide) ?_
    refine wr_iald rfl rfl (by assumption) (by omega) (by omega) ?_
    rw [show ((110 : Int)).toNat = 110 from rfl]
    refine wr_if_ge rfl rfl rfl (by omega) (fun c18 => ?_) (fun c18 => by exfalso; omega)
    refine wr_lconst (z := 1) rfl rfl rfl ?_
    refine wr_ldc2 (z := 2) rfl rfl rfl (by decide) ?_
    refine wr_cv3 (k' := 140) (ci := 12) rfl rfl rfl rfl (by assumption) rfl rfl (fw_set (f := 111) (u := 1) (v := 2) w (by decide) (by decide) (by decide) (by decide)) (fun r h2 q => ?_)
    obtain ⟨rfl, w⟩ := q
    obtain ⟨F3, w, s3, m3⟩ := ff_ex w
    exact J 1 _ F3 (Or.inl rfl) (by unfold hfQ; rw [if_neg c, divQ]; have e1 : (((1 : Int)) : Rat) = 1 := rfl; have e2 : (((2 : Int)) : Rat) = 2 := rfl; rw [e1, e2]; grind) w s3 m3
end RTB
