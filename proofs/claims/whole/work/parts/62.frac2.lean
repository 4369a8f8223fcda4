/-! THE CLASS'S FRACTIONS: ratio, compare, product -/
def arX (h : am_H) (s : Nat) : Prop := ∃ v, arV h s v
theorem div_parts {T : Int} {k : Nat} (k0 : 0 < k) (kT : k ∣ T.natAbs) : (T / (k : Int)).natAbs = T.natAbs / k ∧ (T / (k : Int)).sign = T.sign := by
  obtain ⟨m, hm⟩ : (k : Int) ∣ T := Int.ofNat_dvd_left.mpr kT
  have em : T / (k : Int) = m := by rw [hm, Int.mul_ediv_cancel_left _ (by omega)]
  constructor
  · rw [em, hm, Int.natAbs_mul, Int.natAbs_natCast, Nat.mul_div_cancel_left _ k0]
  · rw [em, hm, Int.sign_mul, Int.sign_eq_one_of_pos (show 0 < (k : Int) by omega), Int.one_mul]
theorem mk_parts {u : Int} {n g : Nat} (hn : 0 < n) (hg : g = Nat.gcd u.natAbs n) : (Rat.divInt u n).num.natAbs = u.natAbs / g ∧ (Rat.divInt u n).den = n / g ∧ (Rat.divInt u n).num.sign = u.sign := by
  have g0 : 0 < g := hg ▸ Nat.gcd_pos_of_pos_right _ hn
  have gu : g ∣ u.natAbs := hg ▸ Nat.gcd_dvd_left ..
  have e : n.gcd u.natAbs = g := by rw [Nat.gcd_comm, hg]
  have := div_parts g0 gu
  rw [Rat.divInt_ofNat, Rat.num_mkRat, Rat.den_mkRat, if_neg (by omega), if_neg (by omega), e]
  exact ⟨this.1, rfl, this.2⟩
theorem mul_parts {a c : Rat} {g : Nat} (hg : g = Nat.gcd (a.num.natAbs * c.num.natAbs) (a.den * c.den)) : (a * c).num.natAbs = a.num.natAbs * c.num.natAbs / g ∧ (a * c).den = a.den * c.den / g ∧ (a * c).num.sign = a.num.sign * c.num.sign ∧ 0 < g := by
  have g0 : 0 < g := hg ▸ Nat.gcd_pos_of_pos_right _ (Nat.mul_pos a.den_pos c.den_pos)
  rw [← Int.natAbs_mul] at hg
  have := div_parts g0 (hg ▸ Nat.gcd_dvd_left ..)
  rw [Rat.num_mul, Rat.den_mul, ← hg]
  exact ⟨by rw [this.1, Int.natAbs_mul], rfl, by rw [this.2, Int.sign_mul], g0⟩
theorem inv_parts {b : Rat} (h : b.num ≠ 0) : (b⁻¹).num.natAbs = b.den ∧ (b⁻¹).den = b.num.natAbs ∧ (b⁻¹).num.sign = b.num.sign := by
  have hd := b.den_pos
  rw [Rat.num_inv, Rat.den_inv, if_neg h]
  refine ⟨?_, rfl, ?_⟩
  · rw [Int.natAbs_mul, Int.natAbs_natCast, Int.natAbs_sign_of_ne_zero h, Nat.one_mul]
  · rw [Int.sign_mul, Int.sign_sign, Int.sign_eq_one_of_pos (show 0 < (b.den : Int) by omega), Int.mul_one]
theorem arV.extA {h h' : am_H} {s : Nat} {v : Nat → Int} {S : List Nat} (a : arV h s v) (f : fr S h h') (hS : ∀ i ∈ S, i < s ∨ s + 22 < i) : arV h' s v ∧ frA s S h h' := ⟨a.ext f hS, frA_of f (fun i hi => Or.inr hi)⟩
/-- the fraction at f lies apart from the arithmetic at s; two fractions are one, or apart -/
def sepA (s f : Nat) : Prop := f + 4 < s ∨ s + 22 < f
def sepF (f g : Nat) : Prop := f = g ∨ f + 4 < g ∨ g + 4 < f
section ARG
variable {X : Nat × (Nat → Int32)}
theorem wp_ratio {d s f cap : Nat} {h : am_H} {q0 : Rat} {u L : Int} (hF : isF h f cap q0) (hcap : 3 ≤ cap ∧ cap ≤ 1000000) (hu : -9223372036854775807 ≤ u ∧ u ≤ 9223372036854775807) (hL : 0 < L ∧ L ≤ 9223372036854775807) :
    am_c X (d + 2) 79 [.ref s, .ref f, .long (lI u), .long (lI L)] h (fun r h' => r = none ∧ isF h' f cap (Rat.divInt u L) ∧ fr (fL f) h h') := by
  obtain ⟨n, rfl⟩ := Int.eq_ofNat_of_zero_le (show 0 ≤ L by omega)
  have hp := mk_parts (u := u) (n := n) (g := Nat.gcd u.natAbs n) (by omega) rfl
  obtain ⟨g, eg⟩ : ∃ g, g = Nat.gcd u.natAbs n := ⟨_, rfl⟩
  have g0 : 0 < g := eg ▸ Nat.gcd_pos_of_pos_right _ (by omega)
  have gn : g ≤ n := eg ▸ Nat.gcd_le_right _ (by omega)
  rw [← eg] at hp
  obtain ⟨hc, hU, hW⟩ := hF
  have big : (1000000000 : Int) ^ 3 ≤ 1000000000 ^ cap := bp_mono hcap.1
  rw [show (1000000000 : Int) ^ 3 = 1000000000000000000000000000 by decide] at big
  refine am_c.of (Nat.le_of_ble_eq_true rfl) ?_
  show am_w _ _ _ (_, [_, _, _, _, _, _, _, _, _, _], _, _) _
  refine wr_lload_n rfl rfl rfl ?_
  refine wr_mabs (b := 0) rfl rfl rfl rfl (by omega) ?_
  refine wr_lstore (ls' := [_, _, _, _, _, _, _, _, _, _]) rfl rfl (Nat.le_of_ble_eq_true rfl) rfl ?_
  refine wr_lload rfl rfl rfl ?_
  refine wr_lload rfl rfl rfl ?_
  refine wr_cs2 (k' := 80) rfl rfl rfl rfl rfl (wp_commonOf (G := u.natAbs) (L := n) (by omega) (by omega)) (fun r h2 q => ?_)
  obtain ⟨rfl, hh⟩ := q
  rw [hh, ← eg]
  clear hh h2
  dsimp only [Option.toList, List.cons_append, List.nil_append]
  refine wr_lstore (ls' := [_, _, _, _, _, _, _, _, _, _]) rfl rfl (Nat.le_of_ble_eq_true rfl) rfl ?_
  refine wr_lload rfl rfl rfl ?_
  refine wr_lconst (z := 0) rfl rfl rfl ?_
  refine wr_l_le rfl rfl rfl rfl rfl (by omega) (by omega) (fun c18 => ?_) (fun c18 => ?_)
  · exfalso; omega
  ·
    refine wr_lload rfl rfl rfl ?_
    refine wr_lconst (z := 0) rfl rfl rfl ?_
    refine wr_l_gt rfl rfl rfl rfl rfl (by omega) (by omega) (fun c25 => ?_) (fun c25 => ?_)
    ·
      refine wr_aload_n rfl rfl rfl ?_
      refine wr_lload_n rfl rfl rfl ?_
      refine wr_lconst (z := 0) rfl rfl rfl ?_
      refine wr_cs2 (k' := 78) rfl rfl rfl rfl rfl (wp_lcompare (by omega) (by omega)) (fun r h2 q => ?_)
      obtain ⟨rfl, hh⟩ := q
      rw [hh, cmpI_sign]
      clear hh h2
      dsimp only [Option.toList, List.cons_append, List.nil_append]
      refine wr_putI (ci := 8) (f := 0) (fs' := [_, _, _]) rfl rfl rfl (by assumption) rfl rfl rfl (fun h1 e1 => ?_)
      have f1 : fr [f] h h1 := by
        rw [e1]
        exact ⟨by simp, fun i hi => am_set_n (fun q => hi (by simp [q]))⟩
      have c1 : h1[f]? = some (.inr (cFr, [.int (iI u.sign), .ref (f + 1), .ref (f + 3)])) := by rw [e1]; exact am_set_s hc
      have U1 := hU.kept f1 (by simp) (by simp)
      have W1 := hW.kept f1 (by simp) (by simp)
      obtain ⟨gu, nu, cu, cul, -⟩ := id U1
      refine wr_aload_n rfl rfl rfl ?_
      refine wr_get (ci := 8) (f := 1) rfl rfl rfl (by assumption) rfl ?_
      refine wr_lload rfl rfl rfl ?_
      refine wr_lload rfl rfl rfl ?_
      have q1 : (u.natAbs : Int) / (g : Int) = ((u.natAbs / g : Nat) : Int) := rfl
      have q2 : (u.natAbs / g : Nat) ≤ u.natAbs := Nat.div_le_self _ _
      refine wr_ldivN rfl rfl (by omega) (by omega) (by omega) (by omega) ?_
      rw [q1]
      refine wr_cv1 (k' := 10) (ci := 5) rfl rfl rfl rfl (by assumption) rfl rfl (wp_put cu cul (by omega) (by omega) (by omega)) (fun r h2 q => ?_)
      obtain ⟨rfl, U2, f2⟩ := q
      dsimp only [Option.toList, List.nil_append]
      have c2 : h2[f]? = some (.inr (cFr, [.int (iI u.sign), .ref (f + 1), .ref (f + 3)])) := by rw [f2.2 f (by simp)]; exact c1
      have W2 := W1.kept f2 (by simp) (by simp)
      obtain ⟨gw, nw, cw, cwl, -⟩ := id W2
      have q3 : (n : Int) / (g : Int) = ((n / g : Nat) : Int) := rfl
      have q4 : (n / g : Nat) ≤ n := Nat.div_le_self _ _
      refine wr_aload_n rfl rfl rfl ?_
      refine wr_get (ci := 8) (f := 2) rfl rfl rfl (by assumption) rfl ?_
      refine wr_lload rfl rfl rfl ?_
      refine wr_lload rfl rfl rfl ?_
      refine wr_ldivN rfl rfl (by omega) (by omega) (by omega) (by omega) ?_
      rw [q3]
      refine wr_cv1 (k' := 10) (ci := 5) rfl rfl rfl rfl (by assumption) rfl rfl (wp_put cw cwl (by omega) (by omega) (by omega)) (fun r h3 q => ?_)
      obtain ⟨rfl, W3, f3⟩ := q
      dsimp only [Option.toList, List.nil_append]
      refine wr_vret rfl rfl ?_
      refine ⟨rfl, ⟨?_, ?_, ?_⟩, ?_⟩
      · rw [f3.2 f (by simp), c2, hp.2.2]
      · rw [hp.1]
        exact U2.kept f3 (by simp) (by simp)
      · rw [hp.2.1]
        exact W3
      · exact fr_tr (fr_tr (U := fL f) f1 f2 (fun i hi => by simp at hi ⊢; omega) (fun i hi => by simp at hi ⊢; omega)) f3 (fun i hi => hi) (fun i hi => by simp at hi ⊢; omega)
    · exfalso; omega
theorem wp_cmpF {d s f cap : Nat} {h : am_H} {a : Rat} {v : Nat → Int} {b : Int} (hv : arV h s v) (hF : isF h f cap a) (hd : f + 4 < s ∨ s + 22 < f) (hcap : cap ≤ 1000000) (hb : 0 ≤ b ∧ b ≤ 9223372036854775807) (ha : (a.den : Int) < 1000000000 ^ 120) :
    am_c X (d + 2) 118 [.ref s, .ref f, .long (lI b)] h (fun r h' => r = some (.int (iI (cmpI (a.num.natAbs : Int) ((a.den : Int) * b)))) ∧ arX h' s ∧ frA s [] h h') := by
  have c_s : h[s]? = some (arCell s) := hv.1
  unfold arCell at c_s
  have big : (1000000000 : Int) ^ 3 ≤ 1000000000 ^ 128 := bp_mono (by decide)
  rw [show (1000000000 : Int) ^ 3 = 1000000000000000000000000000 by decide] at big
  have R3 : isW h (s + 7) (s + 8) 128 _ := hv.2 3 (by decide)
  obtain ⟨g3, n3, c3, c3l, -⟩ := id R3
  have hfit : (a.den : Int) * b < 1000000000 ^ 127 := by
    have y1 : (a.den : Int) * b ≤ (a.den : Int) * 1000000000 ^ 3 := Int.mul_le_mul_of_nonneg_left (by rw [show (1000000000 : Int) ^ 3 = 1000000000000000000000000000 by decide]; omega) (by omega)
    have y2 : (a.den : Int) * 1000000000 ^ 3 < 1000000000 ^ 120 * 1000000000 ^ 3 := Int.mul_lt_mul_of_pos_right ha (bp_pos _)
    rw [← Int.pow_add] at y2
    have := bp_mono (m := 120 + 3) (n := 127) (by decide)
    omega
  refine am_c.of (Nat.le_of_ble_eq_true rfl) ?_
  show am_w _ _ _ (_, [_, _, _, _], _, _) _
  refine wr_aload_n rfl rfl rfl ?_
  refine wr_get (ci := 4) (f := 3) rfl rfl rfl (by assumption) rfl ?_
  refine wr_lload_n rfl rfl rfl ?_
  refine wr_cv1 (k' := 10) (ci := 5) rfl rfl rfl rfl (by assumption) rfl rfl (wp_put c3 c3l (by omega) (by omega) (by omega)) (fun r h2 q => ?_)
  obtain ⟨rfl, w2, f2⟩ := q
  dsimp only [Option.toList, List.nil_append]
  have hv2 := hv.set (k := 3) (by decide) f2 w2
  have hF2 := hF.keptA (frA_reg (s := s) (k := 3) (L := []) (by decide) f2) hd (by simp)
  have e_s : h2[s]? = some (arCell s) := hv2.1
  unfold arCell at e_s
  obtain ⟨b_c, b_u, b_l⟩ := id hF2
  have R2 : isW h2 (s + 5) (s + 6) 128 _ := hv2.2 2 (by decide)
  have R3 : isW h2 (s + 7) (s + 8) 128 _ := hv2.2 3 (by decide)
  rw [updI_s] at R3
  obtain ⟨g2, n2, c2, c2l, -⟩ := id R2
  refine wr_aload_n rfl rfl rfl ?_
  refine wr_get (ci := 4) (f := 2) rfl rfl rfl (by assumption) rfl ?_
  refine wr_aload_n rfl rfl rfl ?_
  refine wr_get (ci := 8) (f := 2) rfl rfl rfl (by assumption) rfl ?_
  refine wr_aload_n rfl rfl rfl ?_
  refine wr_get (ci := 4) (f := 3) rfl rfl rfl (by assumption) rfl ?_
  refine wr_cv2 (k' := 97) (ci := 5) rfl rfl rfl rfl (by assumption) rfl rfl (ar_prod (k := 2) hv2 (by decide) b_l R3 (by omega) (by omega) (by omega) (by omega) hfit) (fun r h3 q => ?_)
  obtain ⟨rfl, hv3, f3⟩ := q
  dsimp only [Option.toList, List.nil_append]
  have hF3 := hF2.keptA f3 hd (by simp)
  have g_s : h3[s]? = some (arCell s) := hv3.1
  unfold arCell at g_s
  obtain ⟨d_c, d_u, d_l⟩ := id hF3
  have Q2 : isW h3 (s + 5) (s + 6) 128 _ := hv3.2 2 (by decide)
  rw [updI_s] at Q2
  obtain ⟨gx, nx, cx, -⟩ := id d_u
  refine wr_aload_n rfl rfl rfl ?_
  refine wr_get (ci := 8) (f := 1) rfl rfl rfl (by assumption) rfl ?_
  refine wr_aload_n rfl rfl rfl ?_
  refine wr_get (ci := 4) (f := 2) rfl rfl rfl (by assumption) rfl ?_
  refine wr_cv1 (k' := 98) (ci := 5) rfl rfl rfl rfl (by assumption) rfl rfl (wp_compare d_u Q2 (by omega) (by omega)) (fun r h4 q => ?_)
  obtain ⟨rfl, hh⟩ := q
  rw [hh]
  clear hh h4
  dsimp only [Option.toList, List.cons_append, List.nil_append]
  refine wr_iret rfl rfl ?_
  exact ⟨rfl, ⟨_, hv3⟩, frA_tr (frA_reg (k := 3) (by decide) f2) f3⟩
theorem wp_prodF {d s fi ci fa ca fb cb P R : Nat} {h : am_H} {v : Nat → Int} {q0 a b c : Rat} {inv : Int} (hv : arV h s v) (Fi : isF h fi ci q0) (Fa : isF h fa ca a) (Fb : isF h fb cb b) (hc : (inv = 0 ∧ c = b) ∨ (inv = 1 ∧ b.num ≠ 0 ∧ c = b⁻¹)) (di : sepA s fi) (da : sepA s fa) (db : sepA s fb) (dia : sepF fi fa) (dib : sepF fi fb) (hci : 1 ≤ ci ∧ ci ≤ 1000000) (hca : ca ≤ 1000000) (hcb : cb ≤ 1000000)
    (b1 : (a.num.natAbs : Int) < 1000000000 ^ P ∧ (a.den : Int) < 1000000000 ^ P) (b2 : (b.num.natAbs : Int) < 1000000000 ^ R ∧ (b.den : Int) < 1000000000 ^ R) (hPR : P + R ≤ 127) (fit : ((a * c).num.natAbs : Int) < 1000000000 ^ (ci - 1) ∧ ((a * c).den : Int) < 1000000000 ^ (ci - 1)) :
    am_c X (d + 4) 101 [.ref s, .ref fi, .ref fa, .ref fb, .int (iI inv)] h (fun r h' => r = none ∧ isF h' fi ci (a * c) ∧ arX h' s ∧ frA s (fL fi) h h') := by
  have hm := mul_parts (a := a) (c := c) rfl
  obtain ⟨g, eg⟩ : ∃ g, g = Nat.gcd (a.num.natAbs * c.num.natAbs) (a.den * c.den) := ⟨_, rfl⟩
  rw [← eg] at hm
  have pos : ∀ {x y : Int}, 0 ≤ x → 0 ≤ y → x < 1000000000 ^ P → y < 1000000000 ^ R → x * y < 1000000000 ^ 127 := by
    intro x y hx hy h1 h2
    clear fit b1 b2
    have y1 : x * y ≤ x * 1000000000 ^ R := Int.mul_le_mul_of_nonneg_left (by omega) hx
    have y2 : x * 1000000000 ^ R < 1000000000 ^ P * 1000000000 ^ R := Int.mul_lt_mul_of_pos_right h1 (bp_pos _)
    rw [← Int.pow_add] at y2
    have := bp_mono (m := P + R) (n := 127) hPR
    omega
  have cB : (c.num.natAbs : Int) < 1000000000 ^ R ∧ (c.den : Int) < 1000000000 ^ R ∧ c.num.sign = b.num.sign := by
    rcases hc with ⟨-, rfl⟩ | ⟨-, nz, rfl⟩
    · exact ⟨b2.1, b2.2, rfl⟩
    · have := inv_parts nz
      rw [this.1, this.2.1]
      exact ⟨b2.2, b2.1, this.2.2⟩
  have nu := pos (x := a.num.natAbs) (y := c.num.natAbs) (by omega) (by omega) b1.1 cB.1
  have nl := pos (x := a.den) (y := c.den) (by omega) (by omega) b1.2 cB.2.1
  have hcl := c.den_pos
  have hal := a.den_pos
  have J13 : am_w X (d + 3) 101 (13, [.ref s, .ref fi, .ref fa, .ref fb, .int (iI inv)], [], h) (fun r h' => r = none ∧ isF h' fi ci (a * c) ∧ arX h' s ∧ frA s (fL fi) h h') := by
    have c_s : h[s]? = some (arCell s) := (hv).1
    unfold arCell at c_s
    obtain ⟨a_c, a_u, a_l⟩ := id Fa
    obtain ⟨b_c, b_u, b_l⟩ := id Fb
    have R2 : isW h (s + 5) (s + 6) 128 _ := hv.2 2 (by decide)
    obtain ⟨g2, n2, c2, -⟩ := id R2
    have J37 : ∀ {tb lb : Nat}, isW h tb lb cb (c.num.natAbs : Int) → (fb ≤ tb ∧ tb ≤ fb + 4) → (fb ≤ lb ∧ lb ≤ fb + 4) → am_w X (d + 3) 101 (37, [.ref s, .ref fi, .ref fa, .ref fb, .int (iI inv)], [.ref tb, .ref (fa + 1), .ref (s + 5)], h) (fun r h' => r = none ∧ isF h' fi ci (a * c) ∧ arX h' s ∧ frA s (fL fi) h h') := by
      intro tb lb hW r1 r2
      refine wr_cv2 (k' := 97) (ci := 5) rfl rfl rfl rfl (by assumption) rfl rfl (ar_prod (k := 2) hv (by decide) a_u hW hca hcb (by simp only [sepA, sepF] at da; omega) (by simp only [sepA, sepF] at db; omega) nu) (fun r h2 q => ?_)
      obtain ⟨rfl, hv2, f2⟩ := q
      dsimp only [Option.toList, List.nil_append]
      have Fa := Fa.keptA f2 da (by simp)
      have Fb := Fb.keptA f2 db (by simp)
      have Fi := Fi.keptA f2 di (by simp)
      have c_s : h2[s]? = some (arCell s) := (hv2).1
      unfold arCell at c_s
      obtain ⟨a_c, a_u, a_l⟩ := id Fa
      obtain ⟨b_c, b_u, b_l⟩ := id Fb
      have R4 : isW h2 (s + 9) (s + 10) 128 _ := hv2.2 4 (by decide)
      obtain ⟨g4, n4, c4, -⟩ := id R4
      have J64 : ∀ {tb lb : Nat}, isW h2 tb lb cb (c.den : Int) → (fb ≤ tb ∧ tb ≤ fb + 4) → (fb ≤ lb ∧ lb ≤ fb + 4) → am_w X (d + 3) 101 (64, [.ref s, .ref fi, .ref fa, .ref fb, .int (iI inv)], [.ref tb, .ref (fa + 3), .ref (s + 9)], h2) (fun r h' => r = none ∧ isF h' fi ci (a * c) ∧ arX h' s ∧ frA s (fL fi) h h') := by
        intro tb lb hW r1 r2
        refine wr_cv2 (k' := 97) (ci := 5) rfl rfl rfl rfl (by assumption) rfl rfl (ar_prod (k := 4) hv2 (by decide) a_l hW hca hcb (by simp only [sepA, sepF] at da; omega) (by simp only [sepA, sepF] at db; omega) nl) (fun r h3 q => ?_)
        obtain ⟨rfl, hv3, f3⟩ := q
        dsimp only [Option.toList, List.nil_append]
        have Fa := Fa.keptA f3 da (by simp)
        have Fb := Fb.keptA f3 db (by simp)
        have Fi := Fi.keptA f3 di (by simp)
        have ff := frA_tr f2 f3
        have c_s : h3[s]? = some (arCell s) := (hv3).1
        unfold arCell at c_s
        have R2 : isW h3 (s + 5) (s + 6) 128 _ := hv3.2 2 (by decide)
        have R4 : isW h3 (s + 9) (s + 10) 128 _ := hv3.2 4 (by decide)
        rw [updI_n (by decide), updI_s] at R2
        rw [updI_s] at R4
        refine wr_aload_n rfl rfl rfl ?_
        refine wr_aload_n rfl rfl rfl ?_
        refine wr_get (ci := 4) (f := 0) rfl rfl rfl (by assumption) rfl ?_
        refine wr_aload_n rfl rfl rfl ?_
        refine wr_get (ci := 4) (f := 2) rfl rfl rfl (by assumption) rfl ?_
        refine wr_aload_n rfl rfl rfl ?_
        refine wr_get (ci := 4) (f := 4) rfl rfl rfl (by assumption) rfl ?_
        refine wr_cv3 (k' := 86) (ci := 4) rfl rfl rfl rfl (by assumption) rfl rfl (wp_findCommon (ki := 0) (by decide) hv3 R2 R4 (by omega) (by omega) (by omega) (by omega) nu nl) (fun r h4 q => ?_)
        obtain ⟨rfl, v4, hv4, e0, ej, f4⟩ := q
        dsimp only [Option.toList, List.nil_append]
        have Fa := Fa.keptA f4 da (by simp)
        have Fb := Fb.keptA f4 db (by simp)
        have Fi := Fi.keptA f4 di (by simp)
        have ff := frA_tr ff f4
        have e0' : v4 0 = (g : Int) := by
          rw [e0, eg]
          rfl
        have c_s : h4[s]? = some (arCell s) := (hv4).1
        unfold arCell at c_s
        have R0 : isW h4 (s + 1) (s + 2) 128 _ := hv4.2 0 (by decide)
        have R2 : isW h4 (s + 5) (s + 6) 128 _ := hv4.2 2 (by decide)
        have R4 : isW h4 (s + 9) (s + 10) 128 _ := hv4.2 4 (by decide)
        rw [ej 2 (by decide) (by decide), updI_n (by decide), updI_s] at R2
        rw [ej 4 (by decide) (by decide), updI_s] at R4
        rw [e0'] at R0
        have gl : g ≤ a.den * c.den := by
          rw [eg]
          exact Nat.gcd_le_right _ (Nat.mul_pos hal hcl)
        have gB : (g : Int) < 1000000000 ^ 127 := by
          have : ((a.den * c.den : Nat) : Int) = (a.den : Int) * c.den := Int.natCast_mul _ _
          omega
        have g0 : (0 : Int) < (g : Int) := by have := hm.2.2.2; omega
        have q1 : (a.num.natAbs : Int) * (c.num.natAbs : Int) / (g : Int) = (((a * c).num.natAbs : Nat) : Int) := by rw [hm.1]; rfl
        have q2 : (a.den : Int) * (c.den : Int) / (g : Int) = (((a * c).den : Nat) : Int) := by rw [hm.2.1]; rfl
        have fit1 : (a.num.natAbs : Int) * (c.num.natAbs : Int) < 1000000000 ^ (ci - 1) * (g : Int) := (Int.ediv_lt_iff_lt_mul g0).mp (by rw [q1]; exact fit.1)
        have fit2 : (a.den : Int) * (c.den : Int) < 1000000000 ^ (ci - 1) * (g : Int) := (Int.ediv_lt_iff_lt_mul g0).mp (by rw [q2]; exact fit.2)
        obtain ⟨i_c, i_u, i_l⟩ := id Fi
        refine wr_aload_n rfl rfl rfl ?_
        refine wr_aload_n rfl rfl rfl ?_
        refine wr_get (ci := 8) (f := 1) rfl rfl rfl (by assumption) rfl ?_
        refine wr_aload_n rfl rfl rfl ?_
        refine wr_get (ci := 4) (f := 2) rfl rfl rfl (by assumption) rfl ?_
        refine wr_aload_n rfl rfl rfl ?_
        refine wr_get (ci := 4) (f := 0) rfl rfl rfl (by assumption) rfl ?_
        refine wr_cv3 (k' := 89) (ci := 4) rfl rfl rfl rfl (by assumption) rfl rfl (ar_divX hv4 i_u R2 R0 g0 (by omega) (by omega) ⟨by omega, hci.2⟩ (by simp only [sepA, sepF] at di; omega) (by omega) (by omega) nu gB fit1) (fun r h5 q => ?_)
        obtain ⟨rfl, iu5, ⟨v5, hv5, -, ej5⟩, f5⟩ := q
        dsimp only [Option.toList, List.nil_append]
        rw [q1] at iu5
        have ic5 : h5[fi]? = some _ := (f5.2 fi (by simp only [sepA, sepF] at di; omega) (by simp)).trans i_c
        have il5 := i_l.keptA f5 (by simp only [sepA, sepF] at di; omega) (by simp only [sepA, sepF] at di; omega) (by simp) (by simp)
        have ac5 : h5[fa]? = some _ := (f5.2 fa (by simp only [sepA, sepF] at da; omega) (by simp only [sepA, sepF] at dia; simp; omega)).trans Fa.1
        have bc5 : h5[fb]? = some _ := (f5.2 fb (by simp only [sepA, sepF] at db; omega) (by simp only [sepA, sepF] at dib; simp; omega)).trans Fb.1
        have c_s : h5[s]? = some (arCell s) := (hv5).1
        unfold arCell at c_s
        have R0 : isW h5 (s + 1) (s + 2) 128 _ := hv5.2 0 (by decide)
        have R4 : isW h5 (s + 9) (s + 10) 128 _ := hv5.2 4 (by decide)
        rw [ej5 4 (by decide) (by decide), ej 4 (by decide) (by decide), updI_s] at R4
        rw [ej5 0 (by decide) (by decide), e0'] at R0
        refine wr_aload_n rfl rfl rfl ?_
        refine wr_aload_n rfl rfl rfl ?_
        refine wr_get (ci := 8) (f := 2) rfl rfl rfl (by assumption) rfl ?_
        refine wr_aload_n rfl rfl rfl ?_
        refine wr_get (ci := 4) (f := 4) rfl rfl rfl (by assumption) rfl ?_
        refine wr_aload_n rfl rfl rfl ?_
        refine wr_get (ci := 4) (f := 0) rfl rfl rfl (by assumption) rfl ?_
        refine wr_cv3 (k' := 89) (ci := 4) rfl rfl rfl rfl (by assumption) rfl rfl (ar_divX hv5 il5 R4 R0 g0 (by omega) (by omega) ⟨by omega, hci.2⟩ (by simp only [sepA, sepF] at di; omega) (by omega) (by omega) nl gB fit2) (fun r h6 q => ?_)
        obtain ⟨rfl, il6, ⟨v6, hv6, -, ej6⟩, f6⟩ := q
        dsimp only [Option.toList, List.nil_append]
        rw [q2] at il6
        have ic6 : h6[fi]? = some _ := (f6.2 fi (by simp only [sepA, sepF] at di; omega) (by simp)).trans ic5
        have iu6 := iu5.keptA f6 (by simp only [sepA, sepF] at di; omega) (by simp only [sepA, sepF] at di; omega) (by simp) (by simp)
        have ac6 : h6[fa]? = some _ := (f6.2 fa (by simp only [sepA, sepF] at da; omega) (by simp only [sepA, sepF] at dia; simp; omega)).trans ac5
        have bc6 : h6[fb]? = some _ := (f6.2 fb (by simp only [sepA, sepF] at db; omega) (by simp only [sepA, sepF] at dib; simp; omega)).trans bc5
        refine wr_aload_n rfl rfl rfl ?_
        refine wr_aload_n rfl rfl rfl ?_
        refine wr_get (ci := 8) (f := 0) rfl rfl rfl (by assumption) rfl ?_
        refine wr_aload_n rfl rfl rfl ?_
        refine wr_get (ci := 8) (f := 0) rfl rfl rfl (by assumption) rfl ?_
        refine wr_imul rfl rfl ?_
        refine wr_putI (ci := 8) (f := 0) (fs' := [_, _, _]) rfl rfl rfl (by assumption) rfl rfl rfl (fun h1 e1 => ?_)
        have f7 : fr [fi] h6 h1 := by
          rw [e1]
          exact ⟨by simp, fun i hi => am_set_n (fun q => hi (by simp [q]))⟩
        refine wr_vret rfl rfl ?_
        refine ⟨rfl, ⟨?_, iu6.kept f7 (by simp) (by simp), il6.kept f7 (by simp) (by simp)⟩, ⟨v6, hv6.ext f7 (by unfold sepA at di; simp; omega)⟩, ?_⟩
        · rw [e1, hm.2.2.1, cB.2.2]
          exact am_set_s ic6
        · exact frA_tr (frA_tr (frA_tr (frA_wk ff (by simp)) (frA_wk f5 (by simp))) (frA_wk f6 (by simp))) (frA_of f7 (fun i hi => by simp at hi ⊢; omega))
      refine wr_aload_n rfl rfl rfl ?_
      refine wr_get (ci := 4) (f := 4) rfl rfl rfl (by assumption) rfl ?_
      refine wr_aload_n rfl rfl rfl ?_
      refine wr_get (ci := 8) (f := 2) rfl rfl rfl (by assumption) rfl ?_
      refine wr_iload rfl rfl rfl ?_
      rcases hc with ⟨z, ec⟩ | ⟨z, nz, ec⟩
      ·
        refine wr_if_eq rfl rfl rfl (by omega) (fun c50 => ?_) (fun c50 => ?_)
        ·
          refine wr_aload_n rfl rfl rfl ?_
          refine wr_get (ci := 8) (f := 2) rfl rfl rfl (by assumption) rfl ?_
          refine J64 (lb := fb + 4) ?_ (by omega) (by omega)
          rw [ec]
          exact b_l
        · exfalso; omega
      ·
        refine wr_if_eq rfl rfl rfl (by omega) (fun c50 => ?_) (fun c50 => ?_)
        · exfalso; omega
        ·
          refine wr_aload_n rfl rfl rfl ?_
          refine wr_get (ci := 8) (f := 1) rfl rfl rfl (by assumption) rfl ?_
          refine wr_goto rfl rfl ?_
          refine J64 (lb := fb + 2) ?_ (by omega) (by omega)
          rw [ec, (inv_parts nz).2.1]
          exact b_u
    refine wr_aload_n rfl rfl rfl ?_
    refine wr_get (ci := 4) (f := 2) rfl rfl rfl (by assumption) rfl ?_
    refine wr_aload_n rfl rfl rfl ?_
    refine wr_get (ci := 8) (f := 1) rfl rfl rfl (by assumption) rfl ?_
    refine wr_iload rfl rfl rfl ?_
    rcases hc with ⟨z, ec⟩ | ⟨z, nz, ec⟩
    ·
      refine wr_if_eq rfl rfl rfl (by omega) (fun c23 => ?_) (fun c23 => ?_)
      ·
        refine wr_aload_n rfl rfl rfl ?_
        refine wr_get (ci := 8) (f := 1) rfl rfl rfl (by assumption) rfl ?_
        refine J37 (lb := fb + 2) ?_ (by omega) (by omega)
        rw [ec]
        exact b_u
      · exfalso; omega
    ·
      refine wr_if_eq rfl rfl rfl (by omega) (fun c23 => ?_) (fun c23 => ?_)
      · exfalso; omega
      ·
        refine wr_aload_n rfl rfl rfl ?_
        refine wr_get (ci := 8) (f := 2) rfl rfl rfl (by assumption) rfl ?_
        refine wr_goto rfl rfl ?_
        refine J37 (lb := fb + 4) ?_ (by omega) (by omega)
        rw [ec, (inv_parts nz).1]
        exact b_l
  obtain ⟨b_c, b_u, b_l⟩ := id Fb
  refine am_c.of (Nat.le_of_ble_eq_true rfl) ?_
  show am_w _ _ _ (_, [_, _, _, _, _], _, _) _
  refine wr_iload rfl rfl rfl ?_
  rcases hc with ⟨z, ec⟩ | ⟨z, nz, ec⟩
  ·
    refine wr_if_eq rfl rfl rfl (by omega) (fun c2 => ?_) (fun c2 => ?_)
    · exact J13
    · exfalso; omega
  ·
    refine wr_if_eq rfl rfl rfl (by omega) (fun c2 => ?_) (fun c2 => ?_)
    · exfalso; omega
    ·
      have s0 : b.num.sign = 1 ∨ b.num.sign = -1 := by
        rcases Int.lt_trichotomy b.num 0 with q | q | q
        · exact Or.inr (Int.sign_eq_neg_one_of_neg q)
        · exact absurd q nz
        · exact Or.inl (Int.sign_eq_one_of_pos q)
      refine wr_aload_n rfl rfl rfl ?_
      refine wr_get (ci := 8) (f := 0) rfl rfl rfl (by assumption) rfl ?_
      refine wr_if_ne rfl rfl rfl (by omega) (fun c9 => ?_) (fun c9 => ?_)
      · exact J13
      · exfalso; omega
end ARG
