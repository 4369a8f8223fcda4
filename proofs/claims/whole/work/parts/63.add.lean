/-! THE CLASS'S FRACTIONS: add -/
section ARH
variable {X : Nat × (Nat → Int32)}
/-- behind the sum's upper part: from 183 on -/
theorem wp_addF_end {d s fi ci fa ca fb cb : Nat} {h0 h : am_H} {v : Nat → Int} {q0 a b b' : Rat} {way bs od sg T : Int} {g k : Nat} (hv : arV h s v) (Fi : isF h fi ci q0) (Fa : isF h fa ca a) (Fb : isF h fb cb b) (di : sepA s fi) (da : sepA s fa) (db : sepA s fb) (hci : 1 ≤ ci ∧ ci ≤ 1000000) (hca : ca ≤ 1000000) (hcb : cb ≤ 1000000) (ff : frA s [] h0 h)
    (ebd : b'.den = b.den) (eg : g = Nat.gcd a.den b'.den) (eT : T = a.num * ((b'.den / g : Nat) : Int) + b'.num * ((a.den / g : Nat) : Int)) (ek : k = Nat.gcd T.natAbs g)
    (r0 : v 0 = (g : Int)) (r4 : v 4 = ((a.den / g : Nat) : Int)) (r6 : v 6 = (T.natAbs : Int)) (hsg : T ≠ 0 → T.sign = sg) (hsg2 : sg = 0 ∨ sg = 1 ∨ sg = -1)
    (gB : (g : Int) < 1000000000 ^ 127) (TB : (T.natAbs : Int) < 1000000000 ^ 127) (bB : (b.den : Int) < 1000000000 ^ 127)
    (fit : ((a + b').num.natAbs : Int) < 1000000000 ^ (ci - 1) ∧ ((a + b').den : Int) < 1000000000 ^ (ci - 1)) :
    am_w X (d + 3) 85 (183, [.ref s, .ref fi, .ref fa, .ref fb, .int (iI way), .int (iI bs), .int (iI od), .int (iI sg)], [], h) (fun r h' => r = none ∧ isF h' fi ci (a + b') ∧ arX h' s ∧ frA s (fL fi) h0 h') := by
  obtain ⟨p1, p2, p3, g0, k0, kb⟩ := rat_add_parts a b' eg eT ek
  have kg : k ≤ g := ek ▸ Nat.gcd_le_right _ g0
  have c_s : h[s]? = some (arCell s) := (hv).1
  unfold arCell at c_s
  have R0 : isW h (s + 1) (s + 2) 128 _ := (hv).2 0 (by decide)
  have R1 : isW h (s + 3) (s + 4) 128 _ := (hv).2 1 (by decide)
  have R6 : isW h (s + 13) (s + 14) 128 _ := (hv).2 6 (by decide)
  rw [r0] at R0
  rw [r6] at R6
  refine wr_aload_n rfl rfl rfl ?_
  refine wr_aload_n rfl rfl rfl ?_
  refine wr_get (ci := 4) (f := 1) rfl rfl rfl (by assumption) rfl ?_
  refine wr_aload_n rfl rfl rfl ?_
  refine wr_get (ci := 4) (f := 6) rfl rfl rfl (by assumption) rfl ?_
  refine wr_aload_n rfl rfl rfl ?_
  refine wr_get (ci := 4) (f := 0) rfl rfl rfl (by assumption) rfl ?_
  refine wr_cv3 (k' := 86) (ci := 4) rfl rfl rfl rfl (by assumption) rfl rfl (wp_findCommon (ki := 1) (by decide) hv R6 R0 (by omega) (by omega) (by omega) (by omega) TB gB) (fun r h2 q => ?_)
  obtain ⟨rfl, v2, hv2, e1, ej, f2⟩ := q
  dsimp only [Option.toList, List.nil_append]
  have Fa := Fa.keptA f2 da (by simp)
  have Fb := Fb.keptA f2 db (by simp)
  have Fi := Fi.keptA f2 di (by simp)
  obtain ⟨a_c, a_u, a_l⟩ := id Fa
  obtain ⟨b_c, b_u, b_l⟩ := id Fb
  have ff := frA_tr ff f2
  have e1' : v2 1 = (k : Int) := by
    rw [e1, ek]
    rfl
  have c_s : h2[s]? = some (arCell s) := (hv2).1
  unfold arCell at c_s
  have R1 : isW h2 (s + 3) (s + 4) 128 _ := (hv2).2 1 (by decide)
  have R5 : isW h2 (s + 11) (s + 12) 128 _ := (hv2).2 5 (by decide)
  rw [e1'] at R1
  have kB : (k : Int) < 1000000000 ^ 127 := by omega
  refine wr_aload_n rfl rfl rfl ?_
  refine wr_aload_n rfl rfl rfl ?_
  refine wr_get (ci := 4) (f := 5) rfl rfl rfl (by assumption) rfl ?_
  refine wr_aload_n rfl rfl rfl ?_
  refine wr_get (ci := 8) (f := 2) rfl rfl rfl (by assumption) rfl ?_
  refine wr_aload_n rfl rfl rfl ?_
  refine wr_get (ci := 4) (f := 1) rfl rfl rfl (by assumption) rfl ?_
  refine wr_cv3 (k' := 89) (ci := 4) rfl rfl rfl rfl (by assumption) rfl rfl (ar_divR (k := 5) hv2 (by decide) (by decide) b_l R1 (by omega) (by omega) (by omega) (by simp only [sepA, sepF] at db; omega) (by omega) bB kB) (fun r h3 q => ?_)
  obtain ⟨rfl, v3, hv3, e5, -, ej3, f3⟩ := q
  dsimp only [Option.toList, List.nil_append]
  have Fa := Fa.keptA f3 da (by simp)
  have Fb := Fb.keptA f3 db (by simp)
  have Fi := Fi.keptA f3 di (by simp)
  obtain ⟨a_c, a_u, a_l⟩ := id Fa
  obtain ⟨b_c, b_u, b_l⟩ := id Fb
  have ff := frA_tr ff f3
  have c_s : h3[s]? = some (arCell s) := (hv3).1
  unfold arCell at c_s
  have R1 : isW h3 (s + 3) (s + 4) 128 _ := (hv3).2 1 (by decide)
  have R6 : isW h3 (s + 13) (s + 14) 128 _ := (hv3).2 6 (by decide)
  rw [ej3 1 (by decide) (by decide) (by decide), e1'] at R1
  rw [ej3 6 (by decide) (by decide) (by decide), ej 6 (by decide) (by decide), r6] at R6
  obtain ⟨i_c, i_u, i_l⟩ := id Fi
  have q1 : (T.natAbs : Int) / (k : Int) = (((a + b').num.natAbs : Nat) : Int) := by rw [p1]; rfl
  have fit1 : (T.natAbs : Int) < 1000000000 ^ (ci - 1) * (k : Int) := (Int.ediv_lt_iff_lt_mul (by omega)).mp (by rw [q1]; exact fit.1)
  refine wr_aload_n rfl rfl rfl ?_
  refine wr_aload_n rfl rfl rfl ?_
  refine wr_get (ci := 8) (f := 1) rfl rfl rfl (by assumption) rfl ?_
  refine wr_aload_n rfl rfl rfl ?_
  refine wr_get (ci := 4) (f := 6) rfl rfl rfl (by assumption) rfl ?_
  refine wr_aload_n rfl rfl rfl ?_
  refine wr_get (ci := 4) (f := 1) rfl rfl rfl (by assumption) rfl ?_
  refine wr_cv3 (k' := 89) (ci := 4) rfl rfl rfl rfl (by assumption) rfl rfl (ar_divX hv3 i_u R6 R1 (by omega) (by omega) (by omega) ⟨by omega, hci.2⟩ (by simp only [sepA, sepF] at di; omega) (by omega) (by omega) TB kB fit1) (fun r h4 q => ?_)
  obtain ⟨rfl, iu4, ⟨v4, hv4, -, ej4⟩, f4⟩ := q
  dsimp only [Option.toList, List.nil_append]
  rw [q1] at iu4
  have ic4 : h4[fi]? = some _ := (f4.2 fi (by simp only [sepA, sepF] at di; omega) (by simp)).trans i_c
  have il4 := i_l.keptA f4 (by simp only [sepA, sepF] at di; omega) (by simp only [sepA, sepF] at di; omega) (by simp) (by simp)
  have c_s : h4[s]? = some (arCell s) := (hv4).1
  unfold arCell at c_s
  have R4 : isW h4 (s + 9) (s + 10) 128 _ := (hv4).2 4 (by decide)
  have R5 : isW h4 (s + 11) (s + 12) 128 _ := (hv4).2 5 (by decide)
  rw [ej4 4 (by decide) (by decide), ej3 4 (by decide) (by decide) (by decide), ej 4 (by decide) (by decide), r4] at R4
  rw [ej4 5 (by decide) (by decide), e5] at R5
  have q2 : ((a.den / g : Nat) : Int) * ((b.den : Int) / (k : Int)) = (((a + b').den : Nat) : Int) := by rw [p2, ebd]; rfl
  obtain ⟨gx, nx, cx, cxl, x1, x2, x3⟩ := id iu4
  obtain ⟨gl, nl, cl, -⟩ := id il4
  refine wr_aload_n rfl rfl rfl ?_
  refine wr_get (ci := 8) (f := 2) rfl rfl rfl (by assumption) rfl ?_
  refine wr_aload_n rfl rfl rfl ?_
  refine wr_get (ci := 4) (f := 4) rfl rfl rfl (by assumption) rfl ?_
  refine wr_aload_n rfl rfl rfl ?_
  refine wr_get (ci := 4) (f := 5) rfl rfl rfl (by assumption) rfl ?_
  refine wr_cv2 (k' := 97) (ci := 5) rfl rfl rfl rfl (by assumption) rfl rfl (wp_product il4 R4 R5 ⟨by omega, hci.2⟩ (by omega) (by omega) (by simp only [sepA, sepF] at di; omega) (by simp only [sepA, sepF] at di; omega) (by rw [q2]; exact fit.2)) (fun r h5 q => ?_)
  obtain ⟨rfl, il5, f5⟩ := q
  dsimp only [Option.toList, List.nil_append]
  rw [q2] at il5
  have ic5 : h5[fi]? = some _ := (f5.2 fi (by simp)).trans ic4
  have iu5 := iu4.kept f5 (by simp) (by simp)
  have cx5 : h5[fi + 1]? = some _ := (f5.2 (fi + 1) (by simp)).trans cx
  have hv5 := hv4.ext f5 (by simp only [sepA] at di; simp; omega)
  have J : ∀ z : Int, z = (a + b').num.sign → am_w X (d + 3) 85 (263, [.ref s, .ref fi, .ref fa, .ref fb, .int (iI way), .int (iI bs), .int (iI od), .int (iI sg)], [.int (iI z), .ref fi], h5) (fun r h' => r = none ∧ isF h' fi ci (a + b') ∧ arX h' s ∧ frA s (fL fi) h0 h') := by
    intro z ez
    refine wr_putI (ci := 8) (f := 0) (fs' := [_, _, _]) rfl rfl rfl (by assumption) rfl rfl rfl (fun h1 e1 => ?_)
    have f7 : fr [fi] h5 h1 := by
      rw [e1]
      exact ⟨by simp, fun i hi => am_set_n (fun q => hi (by simp [q]))⟩
    refine wr_vret rfl rfl ?_
    refine ⟨rfl, ⟨?_, iu5.kept f7 (by simp) (by simp), il5.kept f7 (by simp) (by simp)⟩, ⟨v4, hv5.ext f7 (by simp only [sepA] at di; simp; omega)⟩, ?_⟩
    · rw [e1, ez]
      exact am_set_s ic5
    · exact frA_tr (frA_tr (frA_tr (frA_wk ff (by simp)) (frA_wk f4 (by simp))) (frA_of f5 (fun i hi => by simp at hi ⊢; omega))) (frA_of f7 (fun i hi => by simp at hi ⊢; omega))
  refine wr_aload_n rfl rfl rfl ?_
  refine wr_aload_n rfl rfl rfl ?_
  refine wr_get (ci := 8) (f := 1) rfl rfl rfl (by assumption) rfl ?_
  refine wr_get (ci := 5) (f := 1) rfl rfl rfl (by assumption) rfl ?_
  refine wr_if_le rfl rfl rfl (by omega) (fun c254 => ?_) (fun c254 => ?_)
  ·
    refine wr_iconst rfl rfl ?_
    refine J 0 ?_
    have : nx = 0 := by omega
    subst this
    have x4 : nv gx 0 = 0 := rfl
    have x5 : (a + b').num = 0 := by omega
    rw [x5]
    rfl
  ·
    refine wr_iload rfl rfl rfl ?_
    refine wr_goto rfl rfl ?_
    refine J sg ?_
    have x4 := nv_low x2 (by omega)
    have x5 := bp_pos (nx - 1)
    have x6 : T ≠ 0 := by
      intro e
      rw [e] at p1
      have : (a + b').num.natAbs = 0 := by rw [p1]; simp
      omega
    rw [p3, hsg x6]
set_option maxHeartbeats 4000000 in
theorem wp_addF {d s fi ci fa ca fb cb P R : Nat} {h : am_H} {v : Nat → Int} {q0 a b b' : Rat} {way : Int} (hv : arV h s v) (Fi : isF h fi ci q0) (Fa : isF h fa ca a) (Fb : isF h fb cb b) (hw : -1 ≤ way ∧ way ≤ 1) (ebd : b'.den = b.den) (ebn : b'.num.natAbs = b.num.natAbs) (ebs : b'.num.sign = b.num.sign * way) (di : sepA s fi) (da : sepA s fa) (db : sepA s fb) (hci : 1 ≤ ci ∧ ci ≤ 1000000) (hca : ca ≤ 1000000) (hcb : cb ≤ 1000000)
    (b1 : (a.num.natAbs : Int) < 1000000000 ^ P ∧ (a.den : Int) < 1000000000 ^ P) (b2 : (b.num.natAbs : Int) < 1000000000 ^ R ∧ (b.den : Int) < 1000000000 ^ R) (hPR : P + R ≤ 126) (fit : ((a + b').num.natAbs : Int) < 1000000000 ^ (ci - 1) ∧ ((a + b').den : Int) < 1000000000 ^ (ci - 1)) :
    am_c X (d + 4) 85 [.ref s, .ref fi, .ref fa, .ref fb, .int (iI way)] h (fun r h' => r = none ∧ isF h' fi ci (a + b') ∧ arX h' s ∧ frA s (fL fi) h h') := by
  obtain ⟨g, eg⟩ : ∃ g, g = Nat.gcd a.den b'.den := ⟨_, rfl⟩
  obtain ⟨T, eT⟩ : ∃ T, T = a.num * ((b'.den / g : Nat) : Int) + b'.num * ((a.den / g : Nat) : Int) := ⟨_, rfl⟩
  obtain ⟨k, ek⟩ : ∃ k, k = Nat.gcd T.natAbs g := ⟨_, rfl⟩
  have ad0 := a.den_pos
  have bd0 := b.den_pos
  have g0 : 0 < g := eg ▸ Nat.gcd_pos_of_pos_left _ ad0
  have ga : g ≤ a.den := eg ▸ Nat.gcd_le_left _ ad0
  have la : a.den / g ≤ a.den := Nat.div_le_self _ _
  have lb : b.den / g ≤ b.den := Nat.div_le_self _ _
  have bp1 := bp_pos P
  have bp2 := bp_pos R
  have mPR := bp_mono (m := P + R) (n := 126) hPR
  have mP := bp_mono (m := P) (n := 127) (by omega)
  have mR := bp_mono (m := R) (n := 127) (by omega)
  have m126 : (1000000000 : Int) ^ 127 = 1000000000 ^ 126 * 1000000000 := Int.pow_succ _ _
  have m128 : (1000000000 : Int) ^ 128 = 1000000000 ^ 127 * 1000000000 := Int.pow_succ _ _
  rw [Int.pow_add] at mPR
  have la0 : 1 ≤ a.den / g := (Nat.le_div_iff_mul_le g0).mpr (by omega)
  have gb : g ≤ b.den := by rw [← ebd]; exact eg ▸ Nat.gcd_le_right _ (by omega)
  have lb0 : 1 ≤ b.den / g := (Nat.le_div_iff_mul_le g0).mpr (by omega)
  have nA : (a.num.natAbs : Int) * ((b.den / g : Nat) : Int) < 1000000000 ^ 126 := by
    have y1 : (a.num.natAbs : Int) * ((b.den / g : Nat) : Int) ≤ (a.num.natAbs : Int) * 1000000000 ^ R := Int.mul_le_mul_of_nonneg_left (by omega) (by omega)
    have y2 : (a.num.natAbs : Int) * 1000000000 ^ R < 1000000000 ^ P * 1000000000 ^ R := Int.mul_lt_mul_of_pos_right b1.1 bp2
    omega
  have nB : (b.num.natAbs : Int) * ((a.den / g : Nat) : Int) < 1000000000 ^ 126 := by
    have y1 : (b.num.natAbs : Int) * ((a.den / g : Nat) : Int) ≤ (b.num.natAbs : Int) * 1000000000 ^ P := Int.mul_le_mul_of_nonneg_left (by omega) (by omega)
    have y2 : (b.num.natAbs : Int) * 1000000000 ^ P < 1000000000 ^ R * 1000000000 ^ P := Int.mul_lt_mul_of_pos_right b2.1 bp1
    have y3 : (1000000000 : Int) ^ R * 1000000000 ^ P = 1000000000 ^ P * 1000000000 ^ R := Int.mul_comm _ _
    omega
  obtain ⟨x, ex⟩ : ∃ x, x = a.num * ((b'.den / g : Nat) : Int) := ⟨_, rfl⟩
  obtain ⟨y, ey⟩ : ∃ y, y = b'.num * ((a.den / g : Nat) : Int) := ⟨_, rfl⟩
  rw [← ex, ← ey] at eT
  have ax : (x.natAbs : Int) = (a.num.natAbs : Int) * ((b.den / g : Nat) : Int) := by rw [ex, ebd, Int.natAbs_mul, Int.natAbs_natCast, Int.natCast_mul]
  have ay : (y.natAbs : Int) = (b.num.natAbs : Int) * ((a.den / g : Nat) : Int) := by rw [ey, Int.natAbs_mul, Int.natAbs_natCast, Int.natCast_mul, ebn]
  have sx : x.sign = a.num.sign := by rw [ex, Int.sign_mul, ebd, Int.sign_eq_one_of_pos (show (0 : Int) < ((b.den / g : Nat) : Int) by omega), Int.mul_one]
  have sy : y.sign = b'.num.sign := by rw [ey, Int.sign_mul, Int.sign_eq_one_of_pos (show (0 : Int) < ((a.den / g : Nat) : Int) by omega), Int.mul_one]
  obtain ⟨S1, S2, S3⟩ := sgn_sum (x := x) (y := y)
  rw [← eT] at S1 S2 S3
  rw [sx, sy] at S1 S2 S3
  have sgr : ∀ z : Int, z.sign = 0 ∨ z.sign = 1 ∨ z.sign = -1 := by
    intro z
    rcases Int.lt_trichotomy z 0 with q | q | q
    · exact Or.inr (Or.inr (Int.sign_eq_neg_one_of_neg q))
    · exact Or.inl (by rw [q]; rfl)
    · exact Or.inr (Or.inl (Int.sign_eq_one_of_pos q))
  have sa := fun _ : Unit => sgr a.num
  have sb := fun _ : Unit => sgr b'.num
  rw [← ax] at nA
  rw [← ay] at nB
  have aB : (a.den : Int) < 1000000000 ^ 127 := by omega
  have bB : (b.den : Int) < 1000000000 ^ 127 := by omega
  have gB : (g : Int) < 1000000000 ^ 127 := by omega
  have TB : (T.natAbs : Int) < 1000000000 ^ 127 := by omega
  have mz : -1 ≤ a.num.sign * b'.num.sign ∧ a.num.sign * b'.num.sign ≤ 1 := by
    rcases sa () with q | q | q <;> rcases sb () with r | r | r <;> rw [q, r] <;> decide
  clear b1 b2 mP mR mPR bp1 bp2 la lb ga gb la0 lb0
  obtain ⟨a_c, a_u, a_l⟩ := id Fa
  obtain ⟨b_c, b_u, b_l⟩ := id Fb
  have c_s : h[s]? = some (arCell s) := (hv).1
  unfold arCell at c_s
  refine am_c.of (Nat.le_of_ble_eq_true rfl) ?_
  show am_w _ _ _ (_, [_, _, _, _, _, _, _, _], _, _) _
  refine wr_aload_n rfl rfl rfl ?_
  refine wr_aload_n rfl rfl rfl ?_
  refine wr_get (ci := 4) (f := 0) rfl rfl rfl (by assumption) rfl ?_
  refine wr_aload_n rfl rfl rfl ?_
  refine wr_get (ci := 8) (f := 2) rfl rfl rfl (by assumption) rfl ?_
  refine wr_aload_n rfl rfl rfl ?_
  refine wr_get (ci := 8) (f := 2) rfl rfl rfl (by assumption) rfl ?_
  refine wr_cv3 (k' := 86) (ci := 4) rfl rfl rfl rfl (by assumption) rfl rfl (wp_findCommon (ki := 0) (by decide) hv a_l b_l hca hcb (by simp only [sepA, sepF] at da; omega) (by simp only [sepA, sepF] at db; omega) aB bB) (fun r h2 q => ?_)
  obtain ⟨rfl, v2, hv2, e0, -, f2⟩ := q
  dsimp only [Option.toList, List.nil_append]
  have Fa := Fa.keptA f2 da (by simp)
  have Fb := Fb.keptA f2 db (by simp)
  have Fi := Fi.keptA f2 di (by simp)
  obtain ⟨a_c, a_u, a_l⟩ := id Fa
  obtain ⟨b_c, b_u, b_l⟩ := id Fb
  have e0' : v2 0 = (g : Int) := by
    rw [e0, eg, ebd]
    rfl
  have c_s : h2[s]? = some (arCell s) := (hv2).1
  unfold arCell at c_s
  have R0 : isW h2 (s + 1) (s + 2) 128 _ := (hv2).2 0 (by decide)
  rw [e0'] at R0
  refine wr_aload_n rfl rfl rfl ?_
  refine wr_aload_n rfl rfl rfl ?_
  refine wr_get (ci := 4) (f := 4) rfl rfl rfl (by assumption) rfl ?_
  refine wr_aload_n rfl rfl rfl ?_
  refine wr_get (ci := 8) (f := 2) rfl rfl rfl (by assumption) rfl ?_
  refine wr_aload_n rfl rfl rfl ?_
  refine wr_get (ci := 4) (f := 0) rfl rfl rfl (by assumption) rfl ?_
  refine wr_cv3 (k' := 89) (ci := 4) rfl rfl rfl rfl (by assumption) rfl rfl (ar_divR (k := 4) hv2 (by decide) (by decide) a_l R0 (by omega) (by omega) (by omega) (by simp only [sepA, sepF] at da; omega) (by omega) aB gB) (fun r h3 q => ?_)
  obtain ⟨rfl, v3, hv3, e4, -, ej3, f3⟩ := q
  dsimp only [Option.toList, List.nil_append]
  have Fa := Fa.keptA f3 da (by simp)
  have Fb := Fb.keptA f3 db (by simp)
  have Fi := Fi.keptA f3 di (by simp)
  obtain ⟨a_c, a_u, a_l⟩ := id Fa
  obtain ⟨b_c, b_u, b_l⟩ := id Fb
  have ff := frA_tr f2 f3
  have c_s : h3[s]? = some (arCell s) := (hv3).1
  unfold arCell at c_s
  have R0 : isW h3 (s + 1) (s + 2) 128 _ := (hv3).2 0 (by decide)
  rw [ej3 0 (by decide) (by decide) (by decide), e0'] at R0
  refine wr_aload_n rfl rfl rfl ?_
  refine wr_aload_n rfl rfl rfl ?_
  refine wr_get (ci := 4) (f := 5) rfl rfl rfl (by assumption) rfl ?_
  refine wr_aload_n rfl rfl rfl ?_
  refine wr_get (ci := 8) (f := 2) rfl rfl rfl (by assumption) rfl ?_
  refine wr_aload_n rfl rfl rfl ?_
  refine wr_get (ci := 4) (f := 0) rfl rfl rfl (by assumption) rfl ?_
  refine wr_cv3 (k' := 89) (ci := 4) rfl rfl rfl rfl (by assumption) rfl rfl (ar_divR (k := 5) hv3 (by decide) (by decide) b_l R0 (by omega) (by omega) (by omega) (by simp only [sepA, sepF] at db; omega) (by omega) bB gB) (fun r h4 q => ?_)
  obtain ⟨rfl, v4, hv4, e5, -, ej4, f4⟩ := q
  dsimp only [Option.toList, List.nil_append]
  have Fa := Fa.keptA f4 da (by simp)
  have Fb := Fb.keptA f4 db (by simp)
  have Fi := Fi.keptA f4 di (by simp)
  obtain ⟨a_c, a_u, a_l⟩ := id Fa
  obtain ⟨b_c, b_u, b_l⟩ := id Fb
  have ff := frA_tr ff f4
  have r0 : v4 0 = (g : Int) := by rw [ej4 0 (by decide) (by decide) (by decide), ej3 0 (by decide) (by decide) (by decide), e0']
  have r4 : v4 4 = ((a.den / g : Nat) : Int) := by
    rw [ej4 4 (by decide) (by decide) (by decide), e4]
    rfl
  have r5 : v4 5 = ((b.den / g : Nat) : Int) := by
    rw [e5]
    rfl
  have c_s : h4[s]? = some (arCell s) := (hv4).1
  unfold arCell at c_s
  have R2 : isW h4 (s + 5) (s + 6) 128 _ := (hv4).2 2 (by decide)
  have R5 : isW h4 (s + 11) (s + 12) 128 _ := (hv4).2 5 (by decide)
  rw [r5] at R5
  obtain ⟨g2, n2, d2, -⟩ := id R2
  have nA' := nA
  rw [ax] at nA'
  have nB' := nB
  rw [ay] at nB'
  refine wr_aload_n rfl rfl rfl ?_
  refine wr_get (ci := 4) (f := 2) rfl rfl rfl (by assumption) rfl ?_
  refine wr_aload_n rfl rfl rfl ?_
  refine wr_get (ci := 8) (f := 1) rfl rfl rfl (by assumption) rfl ?_
  refine wr_aload_n rfl rfl rfl ?_
  refine wr_get (ci := 4) (f := 5) rfl rfl rfl (by assumption) rfl ?_
  refine wr_cv2 (k' := 97) (ci := 5) rfl rfl rfl rfl (by assumption) rfl rfl (ar_prod (k := 2) hv4 (by decide) a_u R5 hca (by omega) (by simp only [sepA, sepF] at da; omega) (by omega) (by omega)) (fun r h5 q => ?_)
  obtain ⟨rfl, hv5, f5⟩ := q
  dsimp only [Option.toList, List.nil_append]
  have Fa := Fa.keptA f5 da (by simp)
  have Fb := Fb.keptA f5 db (by simp)
  have Fi := Fi.keptA f5 di (by simp)
  obtain ⟨a_c, a_u, a_l⟩ := id Fa
  obtain ⟨b_c, b_u, b_l⟩ := id Fb
  have ff := frA_tr ff f5
  have c_s : h5[s]? = some (arCell s) := (hv5).1
  unfold arCell at c_s
  have R3 : isW h5 (s + 7) (s + 8) 128 _ := (hv5).2 3 (by decide)
  have R4 : isW h5 (s + 9) (s + 10) 128 _ := (hv5).2 4 (by decide)
  rw [updI_n (by decide), r4] at R4
  obtain ⟨g3, n3, d3, -⟩ := id R3
  refine wr_aload_n rfl rfl rfl ?_
  refine wr_get (ci := 4) (f := 3) rfl rfl rfl (by assumption) rfl ?_
  refine wr_aload_n rfl rfl rfl ?_
  refine wr_get (ci := 8) (f := 1) rfl rfl rfl (by assumption) rfl ?_
  refine wr_aload_n rfl rfl rfl ?_
  refine wr_get (ci := 4) (f := 4) rfl rfl rfl (by assumption) rfl ?_
  refine wr_cv2 (k' := 97) (ci := 5) rfl rfl rfl rfl (by assumption) rfl rfl (ar_prod (k := 3) hv5 (by decide) b_u R4 hcb (by omega) (by simp only [sepA, sepF] at db; omega) (by omega) (by omega)) (fun r h6 q => ?_)
  obtain ⟨rfl, hv6, f6⟩ := q
  dsimp only [Option.toList, List.nil_append]
  have Fa := Fa.keptA f6 da (by simp)
  have Fb := Fb.keptA f6 db (by simp)
  have Fi := Fi.keptA f6 di (by simp)
  obtain ⟨a_c, a_u, a_l⟩ := id Fa
  obtain ⟨b_c, b_u, b_l⟩ := id Fb
  have ff := frA_tr ff f6
  rw [← ax, ← ay] at hv6
  have c_s : h6[s]? = some (arCell s) := (hv6).1
  unfold arCell at c_s
  have R2 : isW h6 (s + 5) (s + 6) 128 _ := (hv6).2 2 (by decide)
  have R3 : isW h6 (s + 7) (s + 8) 128 _ := (hv6).2 3 (by decide)
  have R6 : isW h6 (s + 13) (s + 14) 128 _ := (hv6).2 6 (by decide)
  rw [updI_n (by decide), updI_s] at R2
  rw [updI_s] at R3
  obtain ⟨g2, n2, d2, -⟩ := id R2
  obtain ⟨g3, n3, d3, -⟩ := id R3
  obtain ⟨g6, n6, c6, -⟩ := id R6
  refine wr_aload_n rfl rfl rfl ?_
  refine wr_get (ci := 8) (f := 0) rfl rfl rfl (by assumption) rfl ?_
  refine wr_iload rfl rfl rfl ?_
  refine wr_imul rfl rfl ?_
  refine wr_istore (ls' := [_, _, _, _, _, _, _, _]) rfl rfl (Nat.le_of_ble_eq_true rfl) rfl ?_
  refine wr_aload_n rfl rfl rfl ?_
  refine wr_get (ci := 4) (f := 2) rfl rfl rfl (by assumption) rfl ?_
  refine wr_aload_n rfl rfl rfl ?_
  refine wr_get (ci := 4) (f := 3) rfl rfl rfl (by assumption) rfl ?_
  refine wr_cv1 (k' := 98) (ci := 5) rfl rfl rfl rfl (by assumption) rfl rfl (wp_compare R2 R3 (by omega) (by omega)) (fun r h7 q => ?_)
  obtain ⟨rfl, hh⟩ := q
  rw [hh, ← ebs]
  clear hh h7
  dsimp only [Option.toList, List.cons_append, List.nil_append]
  have cc := cmpI_cases (x.natAbs : Int) (y.natAbs : Int)
  obtain ⟨od, eo⟩ : ∃ od, od = cmpI (x.natAbs : Int) (y.natAbs : Int) := ⟨_, rfl⟩
  rw [← eo] at cc ⊢
  have c1 : -1 ≤ od ∧ od ≤ 1 := by omega
  have c2 : od < 0 → (x.natAbs : Int) < y.natAbs := by omega
  have c3 : 0 ≤ od → (y.natAbs : Int) ≤ x.natAbs := by omega
  clear cc eo
  have END : ∀ (h7 : am_H) (v7 : Nat → Int) (sg : Int), arV h7 s v7 → frA s [] h6 h7 → v7 0 = (g : Int) → v7 4 = ((a.den / g : Nat) : Int) → v7 6 = (T.natAbs : Int) → (T ≠ 0 → T.sign = sg) → (sg = 0 ∨ sg = 1 ∨ sg = -1) → am_w X (d + 3) 85 (183, [.ref s, .ref fi, .ref fa, .ref fb, .int (iI way), .int (iI b'.num.sign), .int (iI od), .int (iI sg)], [], h7) (fun r h' => r = none ∧ isF h' fi ci (a + b') ∧ arX h' s ∧ frA s (fL fi) h h') := by
    intro h7 v7 sg hv7 f7 r0 r4 r6 s1 s2
    have Fa := Fa.keptA f7 da (by simp)
    have Fb := Fb.keptA f7 db (by simp)
    have Fi := Fi.keptA f7 di (by simp)
    obtain ⟨a_c, a_u, a_l⟩ := id Fa
    obtain ⟨b_c, b_u, b_l⟩ := id Fb
    exact wp_addF_end hv7 Fi Fa Fb di da db hci hca hcb (frA_tr ff f7) ebd eg (by rw [eT, ex, ey]) ek r0 r4 r6 s1 s2 gB TB bB fit
  have J : ∀ sg : Int, sg = (if (y.natAbs : Int) ≤ x.natAbs then a.num.sign else b'.num.sign) → am_w X (d + 3) 85 (114, [.ref s, .ref fi, .ref fa, .ref fb, .int (iI way), .int (iI b'.num.sign), .int (iI od), am_U], [.int (iI sg)], h6) (fun r h' => r = none ∧ isF h' fi ci (a + b') ∧ arX h' s ∧ frA s (fL fi) h h') := by
    intro sg esg
    have s1 : T ≠ 0 → T.sign = sg := fun q => by rw [esg]; exact S3 q
    have s2 : sg = 0 ∨ sg = 1 ∨ sg = -1 := by
      rw [esg]
      split
      · exact sa ()
      · exact sb ()
    refine wr_istore (ls' := [_, _, _, _, _, _, _, _]) rfl rfl (Nat.le_of_ble_eq_true rfl) rfl ?_
    refine wr_aload_n rfl rfl rfl ?_
    refine wr_get (ci := 8) (f := 0) rfl rfl rfl (by assumption) rfl ?_
    refine wr_iload rfl rfl rfl ?_
    refine wr_imul rfl rfl ?_
    refine wr_if_lt rfl rfl rfl (by omega) (fun c123 => ?_) (fun c123 => ?_)
    ·
      have eA := S2 (by omega)
      refine wr_aload_n rfl rfl rfl ?_
      refine wr_get (ci := 4) (f := 6) rfl rfl rfl (by assumption) rfl ?_
      refine wr_iload rfl rfl rfl ?_
      refine wr_if_lt rfl rfl rfl (by omega) (fun c150 => ?_) (fun c150 => ?_)
      ·
        refine wr_aload_n rfl rfl rfl ?_
        refine wr_get (ci := 4) (f := 3) rfl rfl rfl (by assumption) rfl ?_
        refine wr_iload rfl rfl rfl ?_
        refine wr_if_lt rfl rfl rfl (by omega) (fun c166 => ?_) (fun c166 => ?_)
        ·
          refine wr_aload_n rfl rfl rfl ?_
          refine wr_get (ci := 4) (f := 2) rfl rfl rfl (by assumption) rfl ?_
          rw [if_neg (by omega)] at eA
          refine wr_cv2 (k' := 100) (ci := 5) rfl rfl rfl rfl (by assumption) rfl rfl (ar_diff (k := 6) hv6 (by decide) R3 R2 (by omega) (by omega) (by omega) (by omega) (by omega) (by omega)) (fun r h7 q => ?_)
          obtain ⟨rfl, hv7, f7⟩ := q
          dsimp only [Option.toList, List.nil_append]
          exact END h7 _ sg hv7 f7 (by rw [updI_n (by decide), updI_n (by decide), updI_n (by decide), r0]) (by rw [updI_n (by decide), updI_n (by decide), updI_n (by decide), r4]) (by rw [updI_s, eA]) s1 s2
        · exfalso; omega
      ·
        refine wr_aload_n rfl rfl rfl ?_
        refine wr_get (ci := 4) (f := 2) rfl rfl rfl (by assumption) rfl ?_
        refine wr_goto rfl rfl ?_
        refine wr_iload rfl rfl rfl ?_
        refine wr_if_lt rfl rfl rfl (by omega) (fun c166 => ?_) (fun c166 => ?_)
        · exfalso; omega
        ·
          refine wr_aload_n rfl rfl rfl ?_
          refine wr_get (ci := 4) (f := 3) rfl rfl rfl (by assumption) rfl ?_
          refine wr_goto rfl rfl ?_
          rw [if_pos (by omega)] at eA
          refine wr_cv2 (k' := 100) (ci := 5) rfl rfl rfl rfl (by assumption) rfl rfl (ar_diff (k := 6) hv6 (by decide) R2 R3 (by omega) (by omega) (by omega) (by omega) (by omega) (by omega)) (fun r h7 q => ?_)
          obtain ⟨rfl, hv7, f7⟩ := q
          dsimp only [Option.toList, List.nil_append]
          exact END h7 _ sg hv7 f7 (by rw [updI_n (by decide), updI_n (by decide), updI_n (by decide), r0]) (by rw [updI_n (by decide), updI_n (by decide), updI_n (by decide), r4]) (by rw [updI_s, eA]) s1 s2
    ·
      have eA := S1 (by omega)
      refine wr_aload_n rfl rfl rfl ?_
      refine wr_get (ci := 4) (f := 6) rfl rfl rfl (by assumption) rfl ?_
      refine wr_aload_n rfl rfl rfl ?_
      refine wr_get (ci := 4) (f := 2) rfl rfl rfl (by assumption) rfl ?_
      refine wr_aload_n rfl rfl rfl ?_
      refine wr_get (ci := 4) (f := 3) rfl rfl rfl (by assumption) rfl ?_
      refine wr_cv2 (k' := 99) (ci := 5) rfl rfl rfl rfl (by assumption) rfl rfl (ar_sum (k := 6) hv6 (by decide) R2 R3 (by omega) (by omega) (by omega) (by omega)) (fun r h7 q => ?_)
      obtain ⟨rfl, hv7, f7⟩ := q
      dsimp only [Option.toList, List.nil_append]
      refine wr_goto rfl rfl ?_
      exact END h7 _ sg hv7 f7 (by rw [updI_n (by decide), updI_n (by decide), updI_n (by decide), r0]) (by rw [updI_n (by decide), updI_n (by decide), updI_n (by decide), r4]) (by rw [updI_s, eA]) s1 s2
  refine wr_istore (ls' := [_, _, _, _, _, _, _, _]) rfl rfl (Nat.le_of_ble_eq_true rfl) rfl ?_
  refine wr_iload rfl rfl rfl ?_
  refine wr_if_lt rfl rfl rfl (by omega) (fun c102 => ?_) (fun c102 => ?_)
  ·
    refine wr_iload rfl rfl rfl ?_
    exact J _ (by rw [if_neg (by omega)])
  ·
    refine wr_aload_n rfl rfl rfl ?_
    refine wr_get (ci := 8) (f := 0) rfl rfl rfl (by assumption) rfl ?_
    refine wr_goto rfl rfl ?_
    exact J _ (by rw [if_pos (by omega)])
end ARH
