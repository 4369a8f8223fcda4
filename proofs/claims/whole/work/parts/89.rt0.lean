/-! THE REFERENCE'S AREAS: ground, section, gap -/
section RTA
variable {X : Nat × (Nat → Int32)} {h0 h h' : am_H} {o o' : Nat → Int} {A A' : Nat → Nat → Int} {F F0 F' : Nat → Rat} {n : Nat} {off lev : Nat → Int}
theorem sgn_rng (z : Int) : -1 ≤ z.sign ∧ z.sign ≤ 1 := by
  rcases Int.lt_trichotomy z 0 with c | c | c
  · rw [Int.sign_eq_neg_one_of_neg c]; decide
  · rw [c]; decide
  · rw [Int.sign_eq_one_of_pos c]; decide
theorem FW.sg (w : FW h0 h o F A) : ∃ S : Nat → Int, h[167]? = some (am_ia 130 S) ∧ ∀ g, g < 125 → (-1 ≤ S g ∧ S g ≤ 1) ∧ (S g < 0 ↔ F g < 0) ∧ (0 < S g ↔ 0 < F g) := by
  obtain ⟨V, S, ⟨l, s, w, R⟩, q⟩ := w
  have c := w.ar (167, 130) (by decide)
  simp only [updA_s] at c
  refine ⟨S, c, fun g hg => ?_⟩
  have e := (q g hg).2.2
  have sp := sign_pos (q := F g)
  rw [e]
  exact ⟨sgn_rng _, sp.2.symm, sp.1.symm⟩
theorem qB.L {P : Nat} {u L : Int} (h1 : -9223372036854775808 ≤ u ∧ u ≤ 9223372036854775807) (h2 : 0 < L ∧ L ≤ 9223372036854775807) (hP : 3 ≤ P) : qB P (Rat.divInt u L) := (qB.long h1 h2).mono hP
theorem qB.sub {P R : Nat} {a b : Rat} (ha : qB P a) (hb : qB R b) : qB (P + R + 1) (a - b) := by
  rw [Rat.sub_eq_add_neg]
  exact ha.add hb.neg
theorem qB.quo {P R : Nat} {a b : Rat} (ha : qB P a) (hb : qB R b) (nz : b.num ≠ 0) : qB (P + R) (a / b) := by
  rw [Rat.div_def]
  exact ha.mul (hb.inv nz)
def gaQ (h0 : am_H) (o : Nat → Int) (F0 : Nat → Rat) (A : Nat → Nat → Int) (to : Nat) (y : Rat) : Option Value → am_H → Prop := fun r h' => r = none ∧ ∃ F', FW h0 h' o F' A ∧ F' to = y ∧ qB 14 y ∧ ∀ g, g ≠ to → g ≠ 104 → g ≠ 105 → F' g = F0 g
theorem rr_groundAt {d f to : Nat} {x : Rat} (W : FW h0 h o F0 A) (g : RG n off lev o A) (ok : okG n off lev) (hf : f < 125) (hto : to < 125) (f1 : f ≠ 104 ∧ f ≠ 105) (hx : F0 f = x) (qx : qB 3 x) : am_c X (d + 7) 189 [.ref 164, .int (iI f), .int (iI to)] h (gaQ h0 o F0 A to (GrQ n off lev x)) := by
  obtain ⟨e19, eG⟩ := g
  have n12 := ok.1
  have ks := gkQ_spec n off x
  have w := W
  have cO := w.cO
  refine am_c.of (Nat.le_of_ble_eq_true rfl) ?_
  show am_w _ _ _ (_, [_, _, _, _, _], _, _) _
  by_cases n0 : n = 0
  · have e0 : GrQ n off lev x = Rat.divInt 0 1 := by
      unfold GrQ
      rw [if_pos n0, div1Q]
      rfl
    rw [e0]
    refine wr_aload_n rfl rfl rfl ?_
    refine wr_get (ci := 12) (f := 19) rfl rfl rfl (by assumption) rfl ?_
    rw [e19]
    refine wr_if_ne rfl rfl rfl (by omega) (fun c4 => by exfalso; omega) (fun c4 => ?_)
    refine wr_aload_n rfl rfl rfl ?_
    refine wr_iload_n rfl rfl rfl ?_
    refine wr_lconst (z := 0) rfl rfl rfl ?_
    refine wr_lconst (z := 1) rfl rfl rfl ?_
    refine wr_cv3 (k' := 140) (ci := 12) rfl rfl rfl rfl (by assumption) rfl rfl (fw_set (f := to) (u := 0) (v := 1) w hto (by decide) (by decide) (by decide)) (fun r h2 q => ?_)
    obtain ⟨rfl, w⟩ := q
    obtain ⟨F2, w, s2, m2⟩ := ff_ex w
    refine wr_vret rfl rfl ?_
    exact ⟨rfl, F2, w, s2, qB.L (by decide) (by decide) (by decide), fun g a _ _ => m2 g a⟩
  have E : ∀ (k : Nat) (F1 : Nat → Rat) (h1 : am_H) (y : Value), k = gkQ n off x → FW h0 h1 o F1 A → (∀ g, g ≠ 104 → F1 g = F0 g) → am_w X (d + 6) 189 (80, [.ref 164, .int (iI f), .int (iI to), .int (iI k), y], [], h1) (gaQ h0 o F0 A to (GrQ n off lev x)) := by
    intro k F1 h1 y hk w m1
    have cO := w.cO
    have cA := w.arr (p := 175) (n := 12) (by decide) (by decide)
    have cB := w.arr (p := 176) (n := 12) (by decide) (by decide)
    have eQ : GrQ n off lev x = _ := rfl
    conv at eQ =>
      rhs
      unfold GrQ
    rw [if_neg n0, ← hk] at eQ
    rw [← hk] at ks
    by_cases k0 : k = 0
    ·
      rw [if_pos k0, ← div1Q] at eQ
      have l0 := ok.2.2.1 0
      have a0 := (eG 0 (by omega)).2
      rw [eQ]
      refine wr_iload_n rfl rfl rfl ?_
      refine wr_if_eq rfl rfl rfl (by omega) (fun c81 => ?_) (fun c81 => by exfalso; omega)
      refine wr_aload_n rfl rfl rfl ?_
      refine wr_iload_n rfl rfl rfl ?_
      refine wr_aload_n rfl rfl rfl ?_
      refine wr_get (ci := 12) (f := 18) rfl rfl rfl (by assumption) rfl ?_
      refine wr_iload_n rfl rfl rfl ?_
      refine wr_if_ne rfl rfl rfl (by omega) (fun c99 => by exfalso; omega) (fun c99 => ?_)
      refine wr_iconst rfl rfl ?_
      refine wr_goto rfl rfl ?_
      refine wr_iald rfl rfl (by assumption) (by omega) (by omega) ?_
      rw [show ((0 : Int)).toNat = 0 from rfl, a0]
      refine wr_i2l rfl rfl (by omega) ?_
      refine wr_lconst (z := 1) rfl rfl rfl ?_
      refine wr_cv3 (k' := 140) (ci := 12) rfl rfl rfl rfl (by assumption) rfl rfl (fw_set (f := to) (u := lev 0) (v := 1) w hto (by omega) (by decide) (by decide)) (fun r h2 q => ?_)
      obtain ⟨rfl, w⟩ := q
      obtain ⟨F2, w, s2, m2⟩ := ff_ex w
      refine wr_vret rfl rfl ?_
      exact ⟨rfl, F2, w, s2, qB.L (by omega) (by decide) (by decide), fun g a b _ => by rw [m2 g a, m1 g b]⟩
    rw [if_neg k0] at eQ
    by_cases kn : k = n
    ·
      rw [if_pos kn, ← div1Q] at eQ
      have l0 := ok.2.2.1 (n - 1)
      have a0 := (eG (n - 1) (by omega)).2
      have et : ((n : Int) - 1).toNat = n - 1 := by omega
      rw [eQ]
      refine wr_iload_n rfl rfl rfl ?_
      refine wr_if_eq rfl rfl rfl (by omega) (fun c81 => by exfalso; omega) (fun c81 => ?_)
      refine wr_iload_n rfl rfl rfl ?_
      refine wr_aload_n rfl rfl rfl ?_
      refine wr_get (ci := 12) (f := 19) rfl rfl rfl (by assumption) rfl ?_
      rw [e19]
      refine wr_icmp_ne rfl rfl rfl (by omega) (by omega) (fun c89 => by exfalso; omega) (fun c89 => ?_)
      refine wr_aload_n rfl rfl rfl ?_
      refine wr_iload_n rfl rfl rfl ?_
      refine wr_aload_n rfl rfl rfl ?_
      refine wr_get (ci := 12) (f := 18) rfl rfl rfl (by assumption) rfl ?_
      refine wr_iload_n rfl rfl rfl ?_
      refine wr_if_ne rfl rfl rfl (by omega) (fun c99 => ?_) (fun c99 => by exfalso; omega)
      refine wr_aload_n rfl rfl rfl ?_
      refine wr_get (ci := 12) (f := 19) rfl rfl rfl (by assumption) rfl ?_
      rw [e19]
      refine wr_iconst rfl rfl ?_
      refine wr_isub rfl rfl ?_
      refine wr_iald rfl rfl (by assumption) (by omega) (by omega) ?_
      rw [et, a0]
      refine wr_i2l rfl rfl (by omega) ?_
      refine wr_lconst (z := 1) rfl rfl rfl ?_
      refine wr_cv3 (k' := 140) (ci := 12) rfl rfl rfl rfl (by assumption) rfl rfl (fw_set (f := to) (u := lev (n - 1)) (v := 1) w hto (by omega) (by decide) (by decide)) (fun r h2 q => ?_)
      obtain ⟨rfl, w⟩ := q
      obtain ⟨F2, w, s2, m2⟩ := ff_ex w
      refine wr_vret rfl rfl ?_
      exact ⟨rfl, F2, w, s2, qB.L (by omega) (by decide) (by decide), fun g a b _ => by rw [m2 g a, m1 g b]⟩
    rw [if_neg kn] at eQ
    have kl : k < n := by omega
    have et : ((k : Int) - 1).toNat = k - 1 := by omega
    have g1 := eG (k - 1) (by omega)
    have g2 := eG k kl
    have o1 := ok.2.1 (k - 1)
    have o2 := ok.2.1 k
    have l1 := ok.2.2.1 (k - 1)
    have l2 := ok.2.2.1 k
    have om := ok.2.2.2 (k - 1) k (by omega) kl
    rw [eQ]
    refine wr_iload_n rfl rfl rfl ?_
    refine wr_if_eq rfl rfl rfl (by omega) (fun c81 => by exfalso; omega) (fun c81 => ?_)
    refine wr_iload_n rfl rfl rfl ?_
    refine wr_aload_n rfl rfl rfl ?_
    refine wr_get (ci := 12) (f := 19) rfl rfl rfl (by assumption) rfl ?_
    rw [e19]
    refine wr_icmp_ne rfl rfl rfl (by omega) (by omega) (fun c89 => ?_) (fun c89 => by exfalso; omega)
    refine wr_aload_n rfl rfl rfl ?_
    refine wr_bipush rfl rfl (by decide) ?_
    refine wr_aload_n rfl rfl rfl ?_
    refine wr_get (ci := 12) (f := 17) rfl rfl rfl (by assumption) rfl ?_
    refine wr_iload_n rfl rfl rfl ?_
    refine wr_iconst rfl rfl ?_
    refine wr_isub rfl rfl ?_
    refine wr_iald rfl rfl (by assumption) (by omega) (by omega) ?_
    rw [et, g1.1]
    refine wr_i2l rfl rfl (by omega) ?_
    refine wr_lconst (z := 1) rfl rfl rfl ?_
    refine wr_cv3 (k' := 140) (ci := 12) rfl rfl rfl rfl (by assumption) rfl rfl (fw_set (f := 104) (u := off (k - 1)) (v := 1) w (by decide) (by omega) (by decide) (by decide)) (fun r h2 q => ?_)
    obtain ⟨rfl, w⟩ := q
    obtain ⟨F2, w, s2, m2⟩ := ff_ex w
    have cO := w.cO
    have q2 : qB 3 (F2 104) := by rw [s2]; exact qB.long (by omega) (by decide)
    have vf : F2 f = x := by rw [m2 f f1.1, m1 f f1.1, hx]
    have qf : qB 3 (F2 f) := by rw [vf]; exact qx
    refine wr_aload_n rfl rfl rfl ?_
    refine wr_bipush rfl rfl (by decide) ?_
    refine wr_iload_n rfl rfl rfl ?_
    refine wr_bipush rfl rfl (by decide) ?_
    refine wr_cv3 (k' := 181) (ci := 12) rfl rfl rfl rfl (by assumption) rfl rfl (fw_take (f := 104) (a := f) (b := 104) w (by decide) hf (by decide) qf q2 (by decide)) (fun r h2 q => ?_)
    obtain ⟨rfl, w⟩ := q
    obtain ⟨F3, w, s3, m3⟩ := ff_ex w
    have cO := w.cO
    have cA := w.arr (p := 175) (n := 12) (by decide) (by decide)
    have cB := w.arr (p := 176) (n := 12) (by decide) (by decide)
    have q3 : qB (3 + 3 + 1) (F3 104) := by rw [s3]; exact qf.sub q2
    refine wr_aload_n rfl rfl rfl ?_
    refine wr_bipush rfl rfl (by decide) ?_
    refine wr_aload_n rfl rfl rfl ?_
    refine wr_get (ci := 12) (f := 18) rfl rfl rfl (by assumption) rfl ?_
    refine wr_iload_n rfl rfl rfl ?_
    refine wr_iald rfl rfl (by assumption) (by omega) (by omega) ?_
    rw [Int.toNat_natCast, g2.2]
    refine wr_aload_n rfl rfl rfl ?_
    refine wr_get (ci := 12) (f := 18) rfl rfl rfl (by assumption) rfl ?_
    refine wr_iload_n rfl rfl rfl ?_
    refine wr_iconst rfl rfl ?_
    refine wr_isub rfl rfl ?_
    refine wr_iald rfl rfl (by assumption) (by omega) (by omega) ?_
    rw [et, g1.2]
    refine wr_isub rfl rfl ?_
    refine wr_i2l rfl rfl (by omega) ?_
    refine wr_aload_n rfl rfl rfl ?_
    refine wr_get (ci := 12) (f := 17) rfl rfl rfl (by assumption) rfl ?_
    refine wr_iload_n rfl rfl rfl ?_
    refine wr_iald rfl rfl (by assumption) (by omega) (by omega) ?_
    rw [Int.toNat_natCast, g2.1]
    refine wr_aload_n rfl rfl rfl ?_
    refine wr_get (ci := 12) (f := 17) rfl rfl rfl (by assumption) rfl ?_
    refine wr_iload_n rfl rfl rfl ?_
    refine wr_iconst rfl rfl ?_
    refine wr_isub rfl rfl ?_
    refine wr_iald rfl rfl (by assumption) (by omega) (by omega) ?_
    rw [et, g1.1]
    refine wr_isub rfl rfl ?_
    refine wr_i2l rfl rfl (by omega) ?_
    refine wr_cv3 (k' := 140) (ci := 12) rfl rfl rfl rfl (by assumption) rfl rfl (fw_set (f := 105) (u := lev k - lev (k - 1)) (v := off k - off (k - 1)) w (by decide) (by omega) (by omega) (by omega)) (fun r h2 q => ?_)
    obtain ⟨rfl, w⟩ := q
    obtain ⟨F4, w, s4, m4⟩ := ff_ex w
    have cO := w.cO
    have cB := w.arr (p := 176) (n := 12) (by decide) (by decide)
    have q4 : qB 3 (F4 105) := by rw [s4]; exact qB.long (by omega) (by omega)
    have q4' : qB (3 + 3 + 1) (F4 104) := by rw [m4 104 (by decide)]; exact q3
    refine wr_aload_n rfl rfl rfl ?_
    refine wr_bipush rfl rfl (by decide) ?_
    refine wr_bipush rfl rfl (by decide) ?_
    refine wr_bipush rfl rfl (by decide) ?_
    refine wr_cv3 (k' := 176) (ci := 12) rfl rfl rfl rfl (by assumption) rfl rfl (fw_times (f := 104) (a := 104) (b := 105) w (by decide) (by decide) (by decide) q4' q4 (by decide)) (fun r h2 q => ?_)
    obtain ⟨rfl, w⟩ := q
    obtain ⟨F5, w, s5, m5⟩ := ff_ex w
    have cO := w.cO
    have cB := w.arr (p := 176) (n := 12) (by decide) (by decide)
    have q5 : qB (3 + 3 + 1 + 3) (F5 104) := by rw [s5]; exact q4'.mul q4
    refine wr_aload_n rfl rfl rfl ?_
    refine wr_bipush rfl rfl (by decide) ?_
    refine wr_aload_n rfl rfl rfl ?_
    refine wr_get (ci := 12) (f := 18) rfl rfl rfl (by assumption) rfl ?_
    refine wr_iload_n rfl rfl rfl ?_
    refine wr_iconst rfl rfl ?_
    refine wr_isub rfl rfl ?_
    refine wr_iald rfl rfl (by assumption) (by omega) (by omega) ?_
    rw [et, g1.2]
    refine wr_i2l rfl rfl (by omega) ?_
    refine wr_lconst (z := 1) rfl rfl rfl ?_
    refine wr_cv3 (k' := 140) (ci := 12) rfl rfl rfl rfl (by assumption) rfl rfl (fw_set (f := 105) (u := lev (k - 1)) (v := 1) w (by decide) (by omega) (by decide) (by decide)) (fun r h2 q => ?_)
    obtain ⟨rfl, w⟩ := q
    obtain ⟨F6, w, s6, m6⟩ := ff_ex w
    have cO := w.cO
    have q6 : qB 3 (F6 105) := by rw [s6]; exact qB.long (by omega) (by decide)
    have q6' : qB (3 + 3 + 1 + 3) (F6 104) := by rw [m6 104 (by decide)]; exact q5
    refine wr_aload_n rfl rfl rfl ?_
    refine wr_iload_n rfl rfl rfl ?_
    refine wr_bipush rfl rfl (by decide) ?_
    refine wr_bipush rfl rfl (by decide) ?_
    refine wr_cv3 (k' := 178) (ci := 12) rfl rfl rfl rfl (by assumption) rfl rfl (fw_add (f := to) (a := 104) (b := 105) w hto (by decide) (by decide) q6' q6 (by decide)) (fun r h2 q => ?_)
    obtain ⟨rfl, w⟩ := q
    obtain ⟨F7, w, s7, m7⟩ := ff_ex w
    refine wr_vret rfl rfl ?_
    have val : F6 104 + F6 105 = (x - (off (k - 1) : Int)) * (((lev k - lev (k - 1) : Int) : Rat) / ((off k - off (k - 1) : Int) : Rat)) + (lev (k - 1) : Int) := by
      rw [m6 104 (by decide), s5, m4 104 (by decide), s3, vf, s2, s4, s6, div1Q, div1Q, divQ]
    refine ⟨rfl, F7, w, ?_, ?_, fun g a b c => by rw [m7 g a, m6 g c, m5 g b, m4 g c, m3 g b, m2 g b, m1 g b]⟩
    · rw [s7, val]
    · rw [← val]
      have t := q6'.add q6
      exact t.mono (by decide)
  have L : ∀ (m k : Nat) (F1 : Nat → Rat) (h1 : am_H), k + m = n → gkQF off x m k = gkQ n off x → FW h0 h1 o F1 A → (∀ g, g ≠ 104 → F1 g = F0 g) → am_w X (d + 6) 189 (20, [.ref 164, .int (iI f), .int (iI to), .int (iI k), .int (iI 1)], [], h1) (gaQ h0 o F0 A to (GrQ n off lev x)) := by
    intro m
    induction m with
    | zero =>
      intro k F1 h1 hk ek w m1
      have cO := w.cO
      refine wr_iload_n rfl rfl rfl ?_
      refine wr_aload_n rfl rfl rfl ?_
      refine wr_get (ci := 12) (f := 19) rfl rfl rfl (by assumption) rfl ?_
      rw [e19]
      refine wr_icmp_ge rfl rfl rfl (by omega) (by omega) (fun c25 => ?_) (fun c25 => by exfalso; omega)
      exact E k F1 h1 _ ek w m1
    | succ m ih =>
      intro k F1 h1 hk ek w m1
      have cO := w.cO
      have cA := w.arr (p := 175) (n := 12) (by decide) (by decide)
      have ob := ok.2.1 k
      have gk1 := (eG k (by omega)).1
      refine wr_iload_n rfl rfl rfl ?_
      refine wr_aload_n rfl rfl rfl ?_
      refine wr_get (ci := 12) (f := 19) rfl rfl rfl (by assumption) rfl ?_
      rw [e19]
      refine wr_icmp_ge rfl rfl rfl (by omega) (by omega) (fun c25 => by exfalso; omega) (fun c25 => ?_)
      refine wr_iload rfl rfl rfl ?_
      refine wr_if_eq rfl rfl rfl (by omega) (fun c30 => by exfalso; omega) (fun c30 => ?_)
      refine wr_aload_n rfl rfl rfl ?_
      refine wr_bipush rfl rfl (by decide) ?_
      refine wr_aload_n rfl rfl rfl ?_
      refine wr_get (ci := 12) (f := 17) rfl rfl rfl (by assumption) rfl ?_
      refine wr_iload_n rfl rfl rfl ?_
      refine wr_iald rfl rfl (by assumption) (by omega) (by omega) ?_
      rw [Int.toNat_natCast, gk1]
      refine wr_i2l rfl rfl (by omega) ?_
      refine wr_lconst (z := 1) rfl rfl rfl ?_
      refine wr_cv3 (k' := 140) (ci := 12) rfl rfl rfl rfl (by assumption) rfl rfl (fw_set (f := 104) (u := off k) (v := 1) w (by decide) (by omega) (by decide) (by decide)) (fun r h2 q => ?_)
      obtain ⟨rfl, w⟩ := q
      obtain ⟨F2, w, s2, m2⟩ := ff_ex w
      have cO := w.cO
      have q2 : qB 3 (F2 104) := by rw [s2]; exact qB.long (by omega) (by decide)
      have vf : F2 f = x := by rw [m2 f f1.1, m1 f f1.1, hx]
      have qf : qB 3 (F2 f) := by rw [vf]; exact qx
      refine wr_aload_n rfl rfl rfl ?_
      refine wr_bipush rfl rfl (by decide) ?_
      refine wr_iload_n rfl rfl rfl ?_
      refine wr_cv2 (k' := 186) (ci := 12) rfl rfl rfl rfl (by assumption) rfl rfl (fw_compare (a := 104) (b := f) w (by decide) hf q2 qf (by decide)) (fun r h2 q => ?_)
      obtain ⟨⟨c, rfl, cr, cl, cg⟩, w⟩ := q
      have cO := w.cO
      rw [s2, div1Q, vf] at cl cg
      unfold gkQF at ek
      have m2' : ∀ g, g ≠ 104 → F2 g = F0 g := fun g a => by rw [m2 g a, m1 g a]
      by_cases le : (off k : Rat) ≤ x
      ·
        rw [if_pos le] at ek
        have c0 : ¬ 0 < c := fun q => absurd (cg.mp q) (Rat.not_lt.mpr le)
        refine wr_if_gt rfl rfl rfl (by omega) (fun c54 => by exfalso; omega) (fun c54 => ?_)
        refine wr_iconst rfl rfl ?_
        refine wr_goto rfl rfl ?_
        refine wr_istore (ls' := [_, _, _, _, _]) rfl rfl (Nat.le_of_ble_eq_true rfl) rfl ?_
        refine wr_iload_n rfl rfl rfl ?_
        refine wr_iload rfl rfl rfl ?_
        refine wr_if_eq rfl rfl rfl (by omega) (fun c67 => by exfalso; omega) (fun c67 => ?_)
        refine wr_iconst rfl rfl ?_
        refine wr_goto rfl rfl ?_
        refine wr_iadd rfl rfl ?_
        refine wr_istore_n (ls' := [_, _, _, _, _]) rfl rfl (Nat.le_of_ble_eq_true rfl) rfl ?_
        refine wr_goto rfl rfl ?_
        exact ih (k + 1) F2 _ (by omega) ek w m2'
      ·
        rw [if_neg le] at ek
        have c0 : 0 < c := cg.mpr (Rat.not_le.mp le)
        rcases Nat.lt_or_ge k n with kl | kl
        ·
          refine wr_if_gt rfl rfl rfl (by omega) (fun c54 => ?_) (fun c54 => by exfalso; omega)
          refine wr_iconst rfl rfl ?_
          refine wr_istore (ls' := [_, _, _, _, _]) rfl rfl (Nat.le_of_ble_eq_true rfl) rfl ?_
          refine wr_iload_n rfl rfl rfl ?_
          refine wr_iload rfl rfl rfl ?_
          refine wr_if_eq rfl rfl rfl (by omega) (fun c67 => ?_) (fun c67 => by exfalso; omega)
          refine wr_iconst rfl rfl ?_
          refine wr_iadd rfl rfl ?_
          refine wr_istore_n (ls' := [_, _, _, _, _]) rfl rfl (Nat.le_of_ble_eq_true rfl) rfl ?_
          refine wr_goto rfl rfl ?_
          refine wr_iload_n rfl rfl rfl ?_
          refine wr_aload_n rfl rfl rfl ?_
          refine wr_get (ci := 12) (f := 19) rfl rfl rfl (by assumption) rfl ?_
          rw [e19]
          refine wr_icmp_ge rfl rfl rfl (by omega) (by omega) (fun c25 => by exfalso; omega) (fun c25 => ?_)
          refine wr_iload rfl rfl rfl ?_
          refine wr_if_eq rfl rfl rfl (by omega) (fun c30 => ?_) (fun c30 => by exfalso; omega)
          rw [show (k : Int) + 0 = (k : Int) by omega]
          exact E k F2 _ _ ek w m2'
        · omega
  refine wr_aload_n rfl rfl rfl ?_
  refine wr_get (ci := 12) (f := 19) rfl rfl rfl (by assumption) rfl ?_
  rw [e19]
  refine wr_if_ne rfl rfl rfl (by omega) (fun c4 => ?_) (fun c4 => by exfalso; omega)
  refine wr_iconst rfl rfl ?_
  refine wr_istore_n (ls' := [_, _, _, _, _]) rfl rfl (Nat.le_of_ble_eq_true rfl) rfl ?_
  refine wr_iconst rfl rfl ?_
  refine wr_istore (ls' := [_, _, _, _, _]) rfl rfl (Nat.le_of_ble_eq_true rfl) rfl ?_
  exact L n 0 F0 h (by omega) rfl w (fun _ _ => rfl)
end RTA
