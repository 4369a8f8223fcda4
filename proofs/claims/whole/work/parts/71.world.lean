/-! SIZES OF FRACTIONS -/
def qB (P : Nat) (q : Rat) : Prop := (q.num.natAbs : Int) < 1000000000 ^ P ∧ (q.den : Int) < 1000000000 ^ P
theorem qB.mono {P R : Nat} {q : Rat} (h : qB P q) (hP : P ≤ R) : qB R q := ⟨Int.lt_of_lt_of_le h.1 (bp_mono hP), Int.lt_of_lt_of_le h.2 (bp_mono hP)⟩
theorem bp_mul_lt {x y : Int} {P R : Nat} (hx : 0 ≤ x) (hy : 0 ≤ y) (h1 : x < 1000000000 ^ P) (h2 : y < 1000000000 ^ R) : x * y < 1000000000 ^ (P + R) := by
  have y1 : x * y ≤ x * 1000000000 ^ R := Int.mul_le_mul_of_nonneg_left (by omega) hx
  have y2 : x * 1000000000 ^ R < 1000000000 ^ P * 1000000000 ^ R := Int.mul_lt_mul_of_pos_right h1 (bp_pos _)
  rw [← Int.pow_add] at y2
  omega
theorem qB.neg {P : Nat} {q : Rat} (h : qB P q) : qB P (-q) := by
  unfold qB
  rw [Rat.neg_num, Rat.neg_den, Int.natAbs_neg]
  exact h
theorem qB.add {P R : Nat} {a b : Rat} (ha : qB P a) (hb : qB R b) : qB (P + R + 1) (a + b) := by
  obtain ⟨e1, e2, -, g0, k0, -⟩ := rat_add_parts a b (g := Nat.gcd a.den b.den) (T := a.num * ((b.den / Nat.gcd a.den b.den : Nat) : Int) + b.num * ((a.den / Nat.gcd a.den b.den : Nat) : Int)) rfl rfl rfl
  generalize Nat.gcd a.den b.den = g at *
  unfold qB
  rw [e1, e2]
  have m1 := bp_mul_lt (x := a.num.natAbs) (y := b.den) (by omega) (by omega) ha.1 hb.2
  have m2 := bp_mul_lt (x := b.num.natAbs) (y := a.den) (by omega) (by omega) hb.1 ha.2
  have m3 := bp_mul_lt (x := a.den) (y := b.den) (by omega) (by omega) ha.2 hb.2
  rw [Nat.add_comm R P] at m2
  have p1 : (1000000000 : Int) ^ (P + R + 1) = 1000000000 ^ (P + R) * 1000000000 := Int.pow_succ ..
  have pp := bp_pos (P + R)
  have d1 : (a.num.natAbs : Int) * ((b.den / g : Nat) : Int) ≤ a.num.natAbs * b.den := Int.mul_le_mul_of_nonneg_left (Int.ofNat_le.mpr (Nat.div_le_self _ _)) (by omega)
  have d2 : (b.num.natAbs : Int) * ((a.den / g : Nat) : Int) ≤ b.num.natAbs * a.den := Int.mul_le_mul_of_nonneg_left (Int.ofNat_le.mpr (Nat.div_le_self _ _)) (by omega)
  constructor
  · have t1 : ((a.num * ((b.den / g : Nat) : Int) + b.num * ((a.den / g : Nat) : Int)).natAbs : Int) ≤ (a.num.natAbs : Int) * ((b.den / g : Nat) : Int) + (b.num.natAbs : Int) * ((a.den / g : Nat) : Int) := by
      have x1 := Int.natAbs_add_le (a.num * ((b.den / g : Nat) : Int)) (b.num * ((a.den / g : Nat) : Int))
      rw [Int.natAbs_mul, Int.natAbs_mul, Int.natAbs_natCast, Int.natAbs_natCast] at x1
      have x2 : ((a.num.natAbs * (b.den / g) + b.num.natAbs * (a.den / g) : Nat) : Int) = (a.num.natAbs : Int) * ((b.den / g : Nat) : Int) + (b.num.natAbs : Int) * ((a.den / g : Nat) : Int) := by rw [Int.natCast_add, Int.natCast_mul, Int.natCast_mul]
      omega
    have t2 : ((((a.num * ((b.den / g : Nat) : Int) + b.num * ((a.den / g : Nat) : Int)).natAbs / (Nat.gcd (a.num * ((b.den / g : Nat) : Int) + b.num * ((a.den / g : Nat) : Int)).natAbs g) : Nat)) : Int) ≤ ((a.num * ((b.den / g : Nat) : Int) + b.num * ((a.den / g : Nat) : Int)).natAbs : Int) := Int.ofNat_le.mpr (Nat.div_le_self _ _)
    omega
  · have t1 : ((a.den / g * (b.den / (Nat.gcd (a.num * ((b.den / g : Nat) : Int) + b.num * ((a.den / g : Nat) : Int)).natAbs g)) : Nat) : Int) ≤ ((a.den * b.den : Nat) : Int) := Int.ofNat_le.mpr (Nat.mul_le_mul (Nat.div_le_self _ _) (Nat.div_le_self _ _))
    rw [Int.natCast_mul a.den b.den] at t1
    omega
theorem qB.mul {P R : Nat} {a b : Rat} (ha : qB P a) (hb : qB R b) : qB (P + R) (a * b) := by
  have e := mul_parts (a := a) (c := b) rfl
  have m1 := bp_mul_lt (x := a.num.natAbs) (y := b.num.natAbs) (by omega) (by omega) ha.1 hb.1
  have m3 := bp_mul_lt (x := a.den) (y := b.den) (by omega) (by omega) ha.2 hb.2
  unfold qB
  rw [e.1, e.2.1]
  have t1 : ((a.num.natAbs * b.num.natAbs / Nat.gcd (a.num.natAbs * b.num.natAbs) (a.den * b.den) : Nat) : Int) ≤ ((a.num.natAbs * b.num.natAbs : Nat) : Int) := Int.ofNat_le.mpr (Nat.div_le_self _ _)
  have t2 : ((a.den * b.den / Nat.gcd (a.num.natAbs * b.num.natAbs) (a.den * b.den) : Nat) : Int) ≤ ((a.den * b.den : Nat) : Int) := Int.ofNat_le.mpr (Nat.div_le_self _ _)
  rw [Int.natCast_mul a.num.natAbs] at t1
  rw [Int.natCast_mul a.den] at t2
  omega
theorem qB.inv {P : Nat} {b : Rat} (hb : qB P b) (nz : b.num ≠ 0) : qB P b⁻¹ := by
  have e := inv_parts nz
  unfold qB
  rw [e.1, e.2.1]
  exact ⟨hb.2, hb.1⟩
theorem qB.div {P : Nat} {u L : Int} (h1 : (u.natAbs : Int) < 1000000000 ^ P) (h2 : 0 < L ∧ L < 1000000000 ^ P) : qB P (Rat.divInt u L) := by
  obtain ⟨n, rfl⟩ := Int.eq_ofNat_of_zero_le (show 0 ≤ L by omega)
  have e := mk_parts (u := u) (n := n) (by omega) rfl
  unfold qB
  rw [e.1, e.2.1]
  have t1 : ((u.natAbs / Nat.gcd u.natAbs n : Nat) : Int) ≤ (u.natAbs : Int) := Int.ofNat_le.mpr (Nat.div_le_self _ _)
  have t2 : ((n / Nat.gcd u.natAbs n : Nat) : Int) ≤ (n : Int) := Int.ofNat_le.mpr (Nat.div_le_self _ _)
  omega
/-- a ratio of longs -/
theorem qB.long {u L : Int} (h1 : -9223372036854775808 ≤ u ∧ u ≤ 9223372036854775807) (h2 : 0 < L ∧ L ≤ 9223372036854775807) : qB 3 (Rat.divInt u L) := by
  refine qB.div ?_ ⟨h2.1, ?_⟩ <;> rw [show (1000000000 : Int) ^ 3 = 1000000000000000000000000000 by decide] <;> omega
/-! THE CLASS'S WORLD: ground walked, arithmetic, section, walker, areas, earthworks -/
def updR (F : Nat → Rat) (k : Nat) (x : Rat) : Nat → Rat := fun j => if j = k then x else F j
theorem updR_s (F : Nat → Rat) (k : Nat) (x : Rat) : updR F k x k = x := by simp [updR]
theorem updR_n {F : Nat → Rat} {k j : Nat} {x : Rat} (h : j ≠ k) : updR F k x j = F j := by simp [updR, h]
/-- a side's corners: N its last, e whether it has ended -/
abbrev Sq : Type := (Nat) × (Int) × (Nat → Int) × (Nat → Int) × (Nat → Int) × (Nat → Int) × (Nat → Int)
abbrev Sq.mk (N : Nat) (e : Int) (cd : Nat → Int) (ou : Nat → Int) (hi : Nat → Int) (ri : Nat → Int) (ru : Nat → Int) : Sq := (N, e, cd, ou, hi, ri, ru)
abbrev Sq.N (s : Sq) : Nat := s.1
abbrev Sq.e (s : Sq) : Int := s.2.1
abbrev Sq.cd (s : Sq) : Nat → Int := s.2.2.1
abbrev Sq.ou (s : Sq) : Nat → Int := s.2.2.2.1
abbrev Sq.hi (s : Sq) : Nat → Int := s.2.2.2.2.1
abbrev Sq.ri (s : Sq) : Nat → Int := s.2.2.2.2.2.1
abbrev Sq.ru (s : Sq) : Nat → Int := s.2.2.2.2.2.2
theorem Sq_N {N : Nat} {e : Int} {cd : Nat → Int} {ou : Nat → Int} {hi : Nat → Int} {ri : Nat → Int} {ru : Nat → Int} : (Sq.mk N e cd ou hi ri ru).N = N := rfl
theorem Sq_e {N : Nat} {e : Int} {cd : Nat → Int} {ou : Nat → Int} {hi : Nat → Int} {ri : Nat → Int} {ru : Nat → Int} : (Sq.mk N e cd ou hi ri ru).e = e := rfl
theorem Sq_cd {N : Nat} {e : Int} {cd : Nat → Int} {ou : Nat → Int} {hi : Nat → Int} {ri : Nat → Int} {ru : Nat → Int} : (Sq.mk N e cd ou hi ri ru).cd = cd := rfl
theorem Sq_ou {N : Nat} {e : Int} {cd : Nat → Int} {ou : Nat → Int} {hi : Nat → Int} {ri : Nat → Int} {ru : Nat → Int} : (Sq.mk N e cd ou hi ri ru).ou = ou := rfl
theorem Sq_hi {N : Nat} {e : Int} {cd : Nat → Int} {ou : Nat → Int} {hi : Nat → Int} {ri : Nat → Int} {ru : Nat → Int} : (Sq.mk N e cd ou hi ri ru).hi = hi := rfl
theorem Sq_ri {N : Nat} {e : Int} {cd : Nat → Int} {ou : Nat → Int} {hi : Nat → Int} {ri : Nat → Int} {ru : Nat → Int} : (Sq.mk N e cd ou hi ri ru).ri = ri := rfl
theorem Sq_ru {N : Nat} {e : Int} {cd : Nat → Int} {ou : Nat → Int} {hi : Nat → Int} {ri : Nat → Int} {ru : Nat → Int} : (Sq.mk N e cd ou hi ri ru).ru = ru := rfl
def updS (S : Nat → Sq) (k : Nat) (x : Sq) : Nat → Sq := fun j => if j = k then x else S j
theorem updS_s (S : Nat → Sq) (k : Nat) (x : Sq) : updS S k x k = x := by simp [updS]
theorem updS_n {S : Nat → Sq} {k j : Nat} {x : Sq} (h : j ≠ k) : updS S k x j = S j := by simp [updS, h]
def isSc (h : am_H) (b : Nat) (sg : Int) (s : Sq) : Prop :=
  h[b]? = some (.inr (cSd, [.int (iI sg), .ref (b + 1), .ref (b + 2), .ref (b + 3), .ref (b + 4), .ref (b + 5), .int (iI s.N), .int (iI s.e), .ref (b + 6), .ref (b + 11)])) ∧ h[b + 1]? = some (am_ia 13 s.cd) ∧ h[b + 2]? = some (am_la 13 s.ou) ∧ h[b + 3]? = some (am_la 13 s.hi) ∧ h[b + 4]? = some (am_la 13 s.ri) ∧ h[b + 5]? = some (am_la 13 s.ru)
def isC (h : am_H) (c : Nat) (wk ch : Int) (tk : Nat → Int) : Prop := h[c]? = some (.inr (cSe, [.ref (c + 1), .ref (c + 17), .int (iI wk), .ref (c + 33), .int (iI ch)])) ∧ h[c + 33]? = some (am_ia 24 tk)
def LF : List (Nat × Nat) := [(52, 16), (57, 16), (68, 16), (73, 16), (80, 16), (85, 16), (90, 16), (96, 100), (101, 100), (106, 16), (111, 16), (116, 16), (121, 16), (126, 16), (140, 16), (154, 16), (159, 16)]
def LW : List Nat := [132, 134, 136, 138, 146, 148, 150, 152]
/-- the sign of the side at b -/
def sgO (b : Nat) : Int := if b = 46 then -1 else 1
abbrev cWa : Nat := 9
abbrev cAe : Nat := 10
abbrev cEw : Nat := 11
def GW (h0 h : am_H) (gn : Nat) (go gl : Nat → Int) (wk ch : Int) (tk : Nat → Int) (S : Nat → Sq) (ws : Nat) (st : Int) (as : Nat) (ix pl : Int) (F : Nat → Rat) (W : Nat → Int) : Prop :=
  (frI [(19, 163)] h0 h) ∧
  (isG h 19 gn go gl) ∧
  (arX h 22) ∧
  (isC h 45 wk ch tk) ∧
  (isSc h 46 (-1) (S 46)) ∧
  (isSc h 62 1 (S 62)) ∧
  (h[79]? = some (.inr (cWa, [.ref 45, .ref 19, .ref 22, .ref ws, .ref 80, .ref 85, .ref 90]))) ∧
  (h[95]? = some (.inr (cAe, [.ref 45, .ref 19, .ref 22, .ref 96, .ref 101, .int (iI st), .ref as, .int (iI ix), .long (lI pl), .ref 106, .ref 111, .ref 116, .ref 121, .ref 126]))) ∧
  (h[131]? = some (.inr (cEw, [.ref 132, .ref 134, .ref 136, .ref 138, .ref 140]))) ∧
  (h[145]? = some (.inr (cEw, [.ref 146, .ref 148, .ref 150, .ref 152, .ref 154]))) ∧
  (∀ p ∈ LW, isW h p (p + 1) 16 (W p)) ∧
  (∀ p ∈ LF, isF h p.1 p.2 (F p.1))
theorem GW.fr {h0 h : am_H} {gn : Nat} {go gl : Nat → Int} {wk ch : Int} {tk : Nat → Int} {S : Nat → Sq} {ws : Nat} {st : Int} {as : Nat} {ix pl : Int} {F : Nat → Rat} {W : Nat → Int} (zz : GW h0 h gn go gl wk ch tk S ws st as ix pl F W) : frI [(19, 163)] h0 h := zz.1
theorem GW.gr {h0 h : am_H} {gn : Nat} {go gl : Nat → Int} {wk ch : Int} {tk : Nat → Int} {S : Nat → Sq} {ws : Nat} {st : Int} {as : Nat} {ix pl : Int} {F : Nat → Rat} {W : Nat → Int} (zz : GW h0 h gn go gl wk ch tk S ws st as ix pl F W) : isG h 19 gn go gl := zz.2.1
theorem GW.ar {h0 h : am_H} {gn : Nat} {go gl : Nat → Int} {wk ch : Int} {tk : Nat → Int} {S : Nat → Sq} {ws : Nat} {st : Int} {as : Nat} {ix pl : Int} {F : Nat → Rat} {W : Nat → Int} (zz : GW h0 h gn go gl wk ch tk S ws st as ix pl F W) : arX h 22 := zz.2.2.1
theorem GW.se {h0 h : am_H} {gn : Nat} {go gl : Nat → Int} {wk ch : Int} {tk : Nat → Int} {S : Nat → Sq} {ws : Nat} {st : Int} {as : Nat} {ix pl : Int} {F : Nat → Rat} {W : Nat → Int} (zz : GW h0 h gn go gl wk ch tk S ws st as ix pl F W) : isC h 45 wk ch tk := zz.2.2.2.1
theorem GW.sl {h0 h : am_H} {gn : Nat} {go gl : Nat → Int} {wk ch : Int} {tk : Nat → Int} {S : Nat → Sq} {ws : Nat} {st : Int} {as : Nat} {ix pl : Int} {F : Nat → Rat} {W : Nat → Int} (zz : GW h0 h gn go gl wk ch tk S ws st as ix pl F W) : isSc h 46 (-1) (S 46) := zz.2.2.2.2.1
theorem GW.sr {h0 h : am_H} {gn : Nat} {go gl : Nat → Int} {wk ch : Int} {tk : Nat → Int} {S : Nat → Sq} {ws : Nat} {st : Int} {as : Nat} {ix pl : Int} {F : Nat → Rat} {W : Nat → Int} (zz : GW h0 h gn go gl wk ch tk S ws st as ix pl F W) : isSc h 62 1 (S 62) := zz.2.2.2.2.2.1
theorem GW.wa {h0 h : am_H} {gn : Nat} {go gl : Nat → Int} {wk ch : Int} {tk : Nat → Int} {S : Nat → Sq} {ws : Nat} {st : Int} {as : Nat} {ix pl : Int} {F : Nat → Rat} {W : Nat → Int} (zz : GW h0 h gn go gl wk ch tk S ws st as ix pl F W) : h[79]? = some (.inr (cWa, [.ref 45, .ref 19, .ref 22, .ref ws, .ref 80, .ref 85, .ref 90])) := zz.2.2.2.2.2.2.1
theorem GW.aa {h0 h : am_H} {gn : Nat} {go gl : Nat → Int} {wk ch : Int} {tk : Nat → Int} {S : Nat → Sq} {ws : Nat} {st : Int} {as : Nat} {ix pl : Int} {F : Nat → Rat} {W : Nat → Int} (zz : GW h0 h gn go gl wk ch tk S ws st as ix pl F W) : h[95]? = some (.inr (cAe, [.ref 45, .ref 19, .ref 22, .ref 96, .ref 101, .int (iI st), .ref as, .int (iI ix), .long (lI pl), .ref 106, .ref 111, .ref 116, .ref 121, .ref 126])) := zz.2.2.2.2.2.2.2.1
theorem GW.e1 {h0 h : am_H} {gn : Nat} {go gl : Nat → Int} {wk ch : Int} {tk : Nat → Int} {S : Nat → Sq} {ws : Nat} {st : Int} {as : Nat} {ix pl : Int} {F : Nat → Rat} {W : Nat → Int} (zz : GW h0 h gn go gl wk ch tk S ws st as ix pl F W) : h[131]? = some (.inr (cEw, [.ref 132, .ref 134, .ref 136, .ref 138, .ref 140])) := zz.2.2.2.2.2.2.2.2.1
theorem GW.e2 {h0 h : am_H} {gn : Nat} {go gl : Nat → Int} {wk ch : Int} {tk : Nat → Int} {S : Nat → Sq} {ws : Nat} {st : Int} {as : Nat} {ix pl : Int} {F : Nat → Rat} {W : Nat → Int} (zz : GW h0 h gn go gl wk ch tk S ws st as ix pl F W) : h[145]? = some (.inr (cEw, [.ref 146, .ref 148, .ref 150, .ref 152, .ref 154])) := zz.2.2.2.2.2.2.2.2.2.1
theorem GW.ww {h0 h : am_H} {gn : Nat} {go gl : Nat → Int} {wk ch : Int} {tk : Nat → Int} {S : Nat → Sq} {ws : Nat} {st : Int} {as : Nat} {ix pl : Int} {F : Nat → Rat} {W : Nat → Int} (zz : GW h0 h gn go gl wk ch tk S ws st as ix pl F W) : ∀ p ∈ LW, isW h p (p + 1) 16 (W p) := zz.2.2.2.2.2.2.2.2.2.2.1
theorem GW.ff {h0 h : am_H} {gn : Nat} {go gl : Nat → Int} {wk ch : Int} {tk : Nat → Int} {S : Nat → Sq} {ws : Nat} {st : Int} {as : Nat} {ix pl : Int} {F : Nat → Rat} {W : Nat → Int} (zz : GW h0 h gn go gl wk ch tk S ws st as ix pl F W) : ∀ p ∈ LF, isF h p.1 p.2 (F p.1) := zz.2.2.2.2.2.2.2.2.2.2.2
def GP (x y : Nat) (h : am_H) (gn : Nat) (go gl : Nat → Int) (wk ch : Int) (tk : Nat → Int) (S : Nat → Sq) (ws : Nat) (st : Int) (as : Nat) (ix pl : Int) (F : Nat → Rat) (W : Nat → Int) : Prop :=
  ((21 < x ∨ y < 19) → isG h 19 gn go gl) ∧
  ((45 < x ∨ y < 45) → (78 < x ∨ y < 78) → isC h 45 wk ch tk) ∧
  ((51 < x ∨ y < 46) → isSc h 46 (-1) (S 46)) ∧
  ((67 < x ∨ y < 62) → isSc h 62 1 (S 62)) ∧
  ((79 < x ∨ y < 79) → h[79]? = some (.inr (cWa, [.ref 45, .ref 19, .ref 22, .ref ws, .ref 80, .ref 85, .ref 90]))) ∧
  ((95 < x ∨ y < 95) → h[95]? = some (.inr (cAe, [.ref 45, .ref 19, .ref 22, .ref 96, .ref 101, .int (iI st), .ref as, .int (iI ix), .long (lI pl), .ref 106, .ref 111, .ref 116, .ref 121, .ref 126]))) ∧
  ((131 < x ∨ y < 131) → h[131]? = some (.inr (cEw, [.ref 132, .ref 134, .ref 136, .ref 138, .ref 140]))) ∧
  ((145 < x ∨ y < 145) → h[145]? = some (.inr (cEw, [.ref 146, .ref 148, .ref 150, .ref 152, .ref 154]))) ∧
  (∀ p ∈ LW, (p + 1 < x ∨ y < p) → isW h p (p + 1) 16 (W p)) ∧
  (∀ p ∈ LF, (p.1 + 4 < x ∨ y < p.1) → isF h p.1 p.2 (F p.1))
theorem GP.gr {x y : Nat} {h : am_H} {gn : Nat} {go gl : Nat → Int} {wk ch : Int} {tk : Nat → Int} {S : Nat → Sq} {ws : Nat} {st : Int} {as : Nat} {ix pl : Int} {F : Nat → Rat} {W : Nat → Int} (zz : GP x y h gn go gl wk ch tk S ws st as ix pl F W) : (21 < x ∨ y < 19) → isG h 19 gn go gl := zz.1
theorem GP.se {x y : Nat} {h : am_H} {gn : Nat} {go gl : Nat → Int} {wk ch : Int} {tk : Nat → Int} {S : Nat → Sq} {ws : Nat} {st : Int} {as : Nat} {ix pl : Int} {F : Nat → Rat} {W : Nat → Int} (zz : GP x y h gn go gl wk ch tk S ws st as ix pl F W) : (45 < x ∨ y < 45) → (78 < x ∨ y < 78) → isC h 45 wk ch tk := zz.2.1
theorem GP.sl {x y : Nat} {h : am_H} {gn : Nat} {go gl : Nat → Int} {wk ch : Int} {tk : Nat → Int} {S : Nat → Sq} {ws : Nat} {st : Int} {as : Nat} {ix pl : Int} {F : Nat → Rat} {W : Nat → Int} (zz : GP x y h gn go gl wk ch tk S ws st as ix pl F W) : (51 < x ∨ y < 46) → isSc h 46 (-1) (S 46) := zz.2.2.1
theorem GP.sr {x y : Nat} {h : am_H} {gn : Nat} {go gl : Nat → Int} {wk ch : Int} {tk : Nat → Int} {S : Nat → Sq} {ws : Nat} {st : Int} {as : Nat} {ix pl : Int} {F : Nat → Rat} {W : Nat → Int} (zz : GP x y h gn go gl wk ch tk S ws st as ix pl F W) : (67 < x ∨ y < 62) → isSc h 62 1 (S 62) := zz.2.2.2.1
theorem GP.wa {x y : Nat} {h : am_H} {gn : Nat} {go gl : Nat → Int} {wk ch : Int} {tk : Nat → Int} {S : Nat → Sq} {ws : Nat} {st : Int} {as : Nat} {ix pl : Int} {F : Nat → Rat} {W : Nat → Int} (zz : GP x y h gn go gl wk ch tk S ws st as ix pl F W) : (79 < x ∨ y < 79) → h[79]? = some (.inr (cWa, [.ref 45, .ref 19, .ref 22, .ref ws, .ref 80, .ref 85, .ref 90])) := zz.2.2.2.2.1
theorem GP.aa {x y : Nat} {h : am_H} {gn : Nat} {go gl : Nat → Int} {wk ch : Int} {tk : Nat → Int} {S : Nat → Sq} {ws : Nat} {st : Int} {as : Nat} {ix pl : Int} {F : Nat → Rat} {W : Nat → Int} (zz : GP x y h gn go gl wk ch tk S ws st as ix pl F W) : (95 < x ∨ y < 95) → h[95]? = some (.inr (cAe, [.ref 45, .ref 19, .ref 22, .ref 96, .ref 101, .int (iI st), .ref as, .int (iI ix), .long (lI pl), .ref 106, .ref 111, .ref 116, .ref 121, .ref 126])) := zz.2.2.2.2.2.1
theorem GP.e1 {x y : Nat} {h : am_H} {gn : Nat} {go gl : Nat → Int} {wk ch : Int} {tk : Nat → Int} {S : Nat → Sq} {ws : Nat} {st : Int} {as : Nat} {ix pl : Int} {F : Nat → Rat} {W : Nat → Int} (zz : GP x y h gn go gl wk ch tk S ws st as ix pl F W) : (131 < x ∨ y < 131) → h[131]? = some (.inr (cEw, [.ref 132, .ref 134, .ref 136, .ref 138, .ref 140])) := zz.2.2.2.2.2.2.1
theorem GP.e2 {x y : Nat} {h : am_H} {gn : Nat} {go gl : Nat → Int} {wk ch : Int} {tk : Nat → Int} {S : Nat → Sq} {ws : Nat} {st : Int} {as : Nat} {ix pl : Int} {F : Nat → Rat} {W : Nat → Int} (zz : GP x y h gn go gl wk ch tk S ws st as ix pl F W) : (145 < x ∨ y < 145) → h[145]? = some (.inr (cEw, [.ref 146, .ref 148, .ref 150, .ref 152, .ref 154])) := zz.2.2.2.2.2.2.2.1
theorem GP.ww {x y : Nat} {h : am_H} {gn : Nat} {go gl : Nat → Int} {wk ch : Int} {tk : Nat → Int} {S : Nat → Sq} {ws : Nat} {st : Int} {as : Nat} {ix pl : Int} {F : Nat → Rat} {W : Nat → Int} (zz : GP x y h gn go gl wk ch tk S ws st as ix pl F W) : ∀ p ∈ LW, (p + 1 < x ∨ y < p) → isW h p (p + 1) 16 (W p) := zz.2.2.2.2.2.2.2.2.1
theorem GP.ff {x y : Nat} {h : am_H} {gn : Nat} {go gl : Nat → Int} {wk ch : Int} {tk : Nat → Int} {S : Nat → Sq} {ws : Nat} {st : Int} {as : Nat} {ix pl : Int} {F : Nat → Rat} {W : Nat → Int} (zz : GP x y h gn go gl wk ch tk S ws st as ix pl F W) : ∀ p ∈ LF, (p.1 + 4 < x ∨ y < p.1) → isF h p.1 p.2 (F p.1) := zz.2.2.2.2.2.2.2.2.2
theorem LF_ok : ∀ p ∈ LF, ((51 < p.1 ∧ p.1 + 4 ≤ 163) ∧ 3 ≤ p.2 ∧ p.2 ≤ 1000) ∧ (p.1 + 4 < 62 ∨ 67 < p.1) ∧ (p.1 + 4 < 78 ∨ 79 < p.1) ∧ (p.1 + 4 < 95 ∨ 95 < p.1) ∧ (p.1 + 4 < 131 ∨ 139 < p.1) ∧ (p.1 + 4 < 145 ∨ 153 < p.1) := by decide
theorem LF_sep : ∀ p ∈ LF, ∀ q ∈ LF, p = q ∨ (p.1 ≠ q.1 ∧ (p.1 + 4 < q.1 ∨ q.1 + 4 < p.1)) := by decide
theorem LW_ok : ∀ p ∈ LW, (131 < p ∧ p < 139) ∨ (145 < p ∧ p < 153) := by decide
theorem LW_sep : ∀ p ∈ LW, ∀ q ∈ LW, p = q ∨ p + 1 < q ∨ q + 1 < p := by decide
section WLD
variable {X : Nat × (Nat → Int32)} {h0 h h' : am_H} {gn ws as : Nat} {go gl tk : Nat → Int} {wk ch st ix pl : Int} {S : Nat → Sq} {F : Nat → Rat} {W : Nat → Int}
theorem isSc.same {lo up b : Nat} {sg : Int} {s : Sq} (w : isSc h b sg s) (q : same lo up h h') (h1 : lo ≤ b ∧ b + 5 ≤ up) : isSc h' b sg s := by
  obtain ⟨c0, c1, c2, c3, c4, c5⟩ := w
  exact ⟨by rw [q b (by omega) (by omega)]; exact c0, by rw [q (b + 1) (by omega) (by omega)]; exact c1, by rw [q (b + 2) (by omega) (by omega)]; exact c2, by rw [q (b + 3) (by omega) (by omega)]; exact c3, by rw [q (b + 4) (by omega) (by omega)]; exact c4, by rw [q (b + 5) (by omega) (by omega)]; exact c5⟩
theorem frI_sm {x y lo up : Nat} (f : frI [(23, 44), (x, y)] h h') (h1 : up < 23 ∨ 44 < lo) (h2 : up < x ∨ y < lo) : same lo up h h' := f.same (fun p hp => by simp at hp; rcases hp with rfl | rfl <;> simpa)
theorem GW.part {x y : Nat} (w : GW h0 (h) gn go gl wk ch tk S ws st as ix pl F W) (f : frI [(23, 44), (x, y)] h h') : GP x y h' gn go gl wk ch tk S ws st as ix pl F W := by
  obtain ⟨fr, gr, ar, se, sl, sr, wa, aa, e1, e2, ww, ff⟩ := w
  refine ⟨fun c => gr.same (frI_sm f (lo := 19) (up := 21) (by omega) c) (by omega), fun c d => ⟨?_, ?_⟩, fun c => sl.same (frI_sm f (lo := 46) (up := 51) (by omega) c) (by omega), fun c => sr.same (frI_sm f (lo := 62) (up := 67) (by omega) c) (by omega), fun c => ?_, fun c => ?_, fun c => ?_, fun c => ?_, fun p hp c => ?_, fun p hp c => ?_⟩
  · rw [frI_sm f (lo := 45) (up := 45) (by omega) c 45 (by omega) (by omega)]; exact se.1
  · rw [frI_sm f (lo := 78) (up := 78) (by omega) d 78 (by omega) (by omega)]; exact se.2
  · rw [frI_sm f (lo := 79) (up := 79) (by omega) c 79 (by omega) (by omega)]; exact wa
  · rw [frI_sm f (lo := 95) (up := 95) (by omega) c 95 (by omega) (by omega)]; exact aa
  · rw [frI_sm f (lo := 131) (up := 131) (by omega) c 131 (by omega) (by omega)]; exact e1
  · rw [frI_sm f (lo := 145) (up := 145) (by omega) c 145 (by omega) (by omega)]; exact e2
  · have := LW_ok p hp
    exact (ww p hp).same (frI_sm f (lo := p) (up := p + 1) (by omega) c) (by omega) (by omega)
  · have := LF_ok p hp
    exact (ff p hp).same (frI_sm f (lo := p.1) (up := p.1 + 4) (by omega) c) (by omega)
theorem GW.frx {x y : Nat} (w : GW h0 (h) gn go gl wk ch tk S ws st as ix pl F W) (f : frI [(23, 44), (x, y)] h h') (c : 19 ≤ x ∧ y ≤ 163) : frI [(19, 163)] h0 h' := frI_tr w.fr (frI_wk f (fun p hp => ⟨(19, 163), by simp, by simp at hp; rcases hp with rfl | rfl <;> simp <;> omega⟩))
/-- a fraction told anew -/
theorem GW.setF {f cap : Nat} {q : Rat} (w : GW h0 (h) gn go gl wk ch tk S ws st as ix pl F W) (hp : (f, cap) ∈ LF) (hf : isF h' f cap q) (ar : arX h' 22) (fr : frI [(23, 44), (f, f + 4)] h h') : GW h0 (h') gn go gl wk ch tk S ws st as ix pl (updR F f q) W := by
  have P := w.part fr
  have k := LF_ok _ hp
  simp only at k
  refine ⟨w.frx fr (by omega), P.gr (by omega), ar, P.se (by omega) (by omega), P.sl (by omega), P.sr (by omega), P.wa (by omega), P.aa (by omega), P.e1 (by omega), P.e2 (by omega), fun p hq => P.ww p hq (by have := LW_ok p hq; omega), fun p hq => ?_⟩
  rcases LF_sep _ hp _ hq with e | e
  · rw [← e]
    simp only [updR_s]
    exact hf
  · simp only at e
    rw [updR_n (fun z => e.1 z.symm)]
    exact P.ff p hq (by omega)
theorem GW.setW {f : Nat} {q : Int} (w : GW h0 (h) gn go gl wk ch tk S ws st as ix pl F W) (hp : f ∈ LW) (hf : isW h' f (f + 1) 16 q) (ar : arX h' 22) (fr : frI [(23, 44), (f, f + 1)] h h') : GW h0 (h') gn go gl wk ch tk S ws st as ix pl F (updI W f q) := by
  have P := w.part fr
  have k := LW_ok _ hp
  refine ⟨w.frx fr (by omega), P.gr (by omega), ar, P.se (by omega) (by omega), P.sl (by omega), P.sr (by omega), P.wa (by omega), P.aa (by omega), P.e1 (by omega), P.e2 (by omega), fun p hq => ?_, fun p hq => P.ff p hq (by have := LF_ok p hq; omega)⟩
  rcases LW_sep _ hp _ hq with e | e
  · subst e
    rw [updI_s]
    exact hf
  · rw [updI_n (by omega)]
    exact P.ww p hq (by omega)
theorem arX.keep {x y : Nat} (a : arX h 22) (f : frI [(x, y)] h h') (c : 44 < x ∨ y < 22) : arX h' 22 := a.same (f.same (lo := 22) (hi := 44) (fun p hp => by simp at hp; subst hp; simpa)) (by omega)
theorem frI_up {x y : Nat} (f : frI [(x, y)] h h') : frI [(23, 44), (x, y)] h h' := frI_wk f (fun p hp => ⟨p, by simp at hp ⊢; exact Or.inr hp, Nat.le_refl _, Nat.le_refl _⟩)
theorem GW.setS {b : Nat} {s : Sq} (w : GW h0 (h) gn go gl wk ch tk S ws st as ix pl F W) (hb : b = 46 ∨ b = 62) (hs : isSc h' b (sgO b) s) (fr : frI [(b, b + 5)] h h') : GW h0 (h') gn go gl wk ch tk (updS S b s) ws st as ix pl F W := by
  have P := w.part (frI_up fr)
  have ar := w.ar.keep fr (by omega)
  rcases hb with rfl | rfl
  · exact ⟨w.frx (frI_up fr) (by omega), P.gr (by omega), ar, P.se (by omega) (by omega), hs, by rw [updS_n (by decide)]; exact P.sr (by omega), P.wa (by omega), P.aa (by omega), P.e1 (by omega), P.e2 (by omega), fun p hq => P.ww p hq (by have := LW_ok p hq; omega), fun p hq => P.ff p hq (by have := LF_ok p hq; omega)⟩
  · exact ⟨w.frx (frI_up fr) (by omega), P.gr (by omega), ar, P.se (by omega) (by omega), by rw [updS_n (by decide)]; exact P.sl (by omega), hs, P.wa (by omega), P.aa (by omega), P.e1 (by omega), P.e2 (by omega), fun p hq => P.ww p hq (by have := LW_ok p hq; omega), fun p hq => P.ff p hq (by have := LF_ok p hq; omega)⟩
theorem GW.setG {gn' : Nat} {go' gl' : Nat → Int} (w : GW h0 (h) gn go gl wk ch tk S ws st as ix pl F W) (hs : isG h' 19 gn' go' gl') (fr : frI [(19, 21)] h h') : GW h0 (h') (gn') (go') (gl') wk ch tk S ws st as ix pl F W := by
  have P := w.part (frI_up fr)
  exact ⟨w.frx (frI_up fr) (by omega), hs, w.ar.keep fr (by omega), P.se (by omega) (by omega), P.sl (by omega), P.sr (by omega), P.wa (by omega), P.aa (by omega), P.e1 (by omega), P.e2 (by omega), fun p hq => P.ww p hq (by have := LW_ok p hq; omega), fun p hq => P.ff p hq (by have := LF_ok p hq; omega)⟩
theorem GW.setC (w : GW h0 (h) gn go gl wk ch tk S ws st as ix pl F W) (wk' ch' : Int) : GW h0 (h.set 45 (.inr (cSe, [.ref 46, .ref 62, .int (iI wk'), .ref 78, .int (iI ch')]))) gn go gl (wk') (ch') tk S ws st as ix pl F W := by
  have fr : frI [(45, 45)] h (h.set 45 (.inr (cSe, [.ref 46, .ref 62, .int (iI wk'), .ref 78, .int (iI ch')]))) := frI_set (by omega)
  have P := w.part (frI_up fr)
  exact ⟨w.frx (frI_up fr) (by omega), P.gr (by omega), w.ar.keep fr (by omega), ⟨am_set_s w.se.1, by rw [am_set_n (by omega)]; exact w.se.2⟩, P.sl (by omega), P.sr (by omega), P.wa (by omega), P.aa (by omega), P.e1 (by omega), P.e2 (by omega), fun p hq => P.ww p hq (by have := LW_ok p hq; omega), fun p hq => P.ff p hq (by have := LF_ok p hq; omega)⟩
theorem GW.setT (w : GW h0 (h) gn go gl wk ch tk S ws st as ix pl F W) (tk' : Nat → Int) : GW h0 (h.set 78 (am_ia 24 tk')) gn go gl wk ch (tk') S ws st as ix pl F W := by
  have fr : frI [(78, 78)] h (h.set 78 (am_ia 24 tk')) := frI_set (by omega)
  have P := w.part (frI_up fr)
  exact ⟨w.frx (frI_up fr) (by omega), P.gr (by omega), w.ar.keep fr (by omega), ⟨by rw [am_set_n (by omega)]; exact w.se.1, am_set_s w.se.2⟩, P.sl (by omega), P.sr (by omega), P.wa (by omega), P.aa (by omega), P.e1 (by omega), P.e2 (by omega), fun p hq => P.ww p hq (by have := LW_ok p hq; omega), fun p hq => P.ff p hq (by have := LF_ok p hq; omega)⟩
theorem GW.setK (w : GW h0 (h) gn go gl wk ch tk S ws st as ix pl F W) (ws' : Nat) : GW h0 (h.set 79 (.inr (cWa, [.ref 45, .ref 19, .ref 22, .ref ws', .ref 80, .ref 85, .ref 90]))) gn go gl wk ch tk S (ws') st as ix pl F W := by
  have fr : frI [(79, 79)] h (h.set 79 (.inr (cWa, [.ref 45, .ref 19, .ref 22, .ref ws', .ref 80, .ref 85, .ref 90]))) := frI_set (by omega)
  have P := w.part (frI_up fr)
  exact ⟨w.frx (frI_up fr) (by omega), P.gr (by omega), w.ar.keep fr (by omega), P.se (by omega) (by omega), P.sl (by omega), P.sr (by omega), am_set_s w.wa, P.aa (by omega), P.e1 (by omega), P.e2 (by omega), fun p hq => P.ww p hq (by have := LW_ok p hq; omega), fun p hq => P.ff p hq (by have := LF_ok p hq; omega)⟩
theorem GW.setA (w : GW h0 (h) gn go gl wk ch tk S ws st as ix pl F W) (st' : Int) (as' : Nat) (ix' pl' : Int) : GW h0 (h.set 95 (.inr (cAe, [.ref 45, .ref 19, .ref 22, .ref 96, .ref 101, .int (iI st'), .ref as', .int (iI ix'), .long (lI pl'), .ref 106, .ref 111, .ref 116, .ref 121, .ref 126]))) gn go gl wk ch tk S ws (st') (as') (ix') (pl') F W := by
  have fr : frI [(95, 95)] h (h.set 95 (.inr (cAe, [.ref 45, .ref 19, .ref 22, .ref 96, .ref 101, .int (iI st'), .ref as', .int (iI ix'), .long (lI pl'), .ref 106, .ref 111, .ref 116, .ref 121, .ref 126]))) := frI_set (by omega)
  have P := w.part (frI_up fr)
  exact ⟨w.frx (frI_up fr) (by omega), P.gr (by omega), w.ar.keep fr (by omega), P.se (by omega) (by omega), P.sl (by omega), P.sr (by omega), P.wa (by omega), am_set_s w.aa, P.e1 (by omega), P.e2 (by omega), fun p hq => P.ww p hq (by have := LW_ok p hq; omega), fun p hq => P.ff p hq (by have := LF_ok p hq; omega)⟩
theorem GW.sd {b : Nat} (w : GW h0 (h) gn go gl wk ch tk S ws st as ix pl F W) (hb : b = 46 ∨ b = 62) : isSc h b (sgO b) (S b) := by
  rcases hb with rfl | rfl
  · exact w.sl
  · exact w.sr
/-- the side with its ends -/
theorem GW.sS {b : Nat} (w : GW h0 (h) gn go gl wk ch tk S ws st as ix pl F W) (hb : b = 46 ∨ b = 62) : isS h b (sgO b) (S b).N (S b).e (S b).cd (S b).ou (S b).hi (S b).ri (S b).ru (F (b + 6)) (F (b + 11)) := by
  obtain ⟨c0, c1, c2, c3, c4, c5⟩ := w.sd hb
  have m1 : (b + 6, 16) ∈ LF := by rcases hb with rfl | rfl <;> decide
  have m2 : (b + 11, 16) ∈ LF := by rcases hb with rfl | rfl <;> decide
  exact ⟨c0, c1, c2, c3, c4, c5, w.ff _ m1, w.ff _ m2⟩
/-! the arithmetic in this world -/
theorem fr_frI {f : Nat} (g : fr (fL f) h h') : frI [(f, f + 4)] h h' := frI_fr g (fun i hi => ⟨(f, f + 4), by simp, by simp at hi; simp only; omega⟩)
theorem frA_frI {f : Nat} (g : frA 22 (fL f) h h') : frI [(23, 44), (f, f + 4)] h h' := frI_A g ⟨(23, 44), by simp, by simp⟩ (fun i hi => ⟨(f, f + 4), by simp, by simp at hi; simp only; omega⟩)
theorem frA_frI0 {x : Nat} (g : frA 22 [] h h') : frI [(23, 44), (x, x)] h h' := frI_A g ⟨(23, 44), by simp, by simp⟩ (fun i hi => by simp at hi)
theorem gw_ratio {d f cap : Nat} {u L : Int} (w : GW h0 (h) gn go gl wk ch tk S ws st as ix pl F W) (hp : (f, cap) ∈ LF) (hu : -9223372036854775807 ≤ u ∧ u ≤ 9223372036854775807) (hL : 0 < L ∧ L ≤ 9223372036854775807) : am_c X (d + 2) 79 [.ref 22, .ref f, .long (lI u), .long (lI L)] h (fun r h' => r = none ∧ GW h0 (h') gn go gl wk ch tk S ws st as ix pl (updR F f (Rat.divInt u L)) W) := by
  have k := LF_ok _ hp
  simp only at k
  refine am_c.mono (wp_ratio (w.ff _ hp) (by simp only; omega) hu hL) (fun r h' q => ?_)
  obtain ⟨rfl, q1, q2⟩ := q
  have f1 := fr_frI q2
  exact ⟨rfl, w.setF hp q1 (w.ar.keep f1 (by omega)) (frI_up f1)⟩
theorem LF_sepA {f cap : Nat} (hp : (f, cap) ∈ LF) : sepA 22 f := by
  have k := LF_ok _ hp
  simp only at k
  unfold sepA; omega
theorem LF_sepF {f cap f2 cap2 : Nat} (hp : (f, cap) ∈ LF) (hq : (f2, cap2) ∈ LF) : sepF f f2 := by
  rcases LF_sep _ hp _ hq with e | e
  · cases e; exact Or.inl rfl
  · simp only at e; unfold sepF; omega
theorem gw_prod {d fi ci fa ca fb cb P R : Nat} {c : Rat} {inv : Int} (w : GW h0 (h) gn go gl wk ch tk S ws st as ix pl F W) (hi : (fi, ci) ∈ LF) (ha : (fa, ca) ∈ LF) (hb : (fb, cb) ∈ LF) (hc : (inv = 0 ∧ c = F fb) ∨ (inv = 1 ∧ (F fb).num ≠ 0 ∧ c = (F fb)⁻¹)) (b1 : ((F fa).num.natAbs : Int) < 1000000000 ^ P ∧ ((F fa).den : Int) < 1000000000 ^ P) (b2 : ((F fb).num.natAbs : Int) < 1000000000 ^ R ∧ ((F fb).den : Int) < 1000000000 ^ R) (hPR : P + R ≤ 127) (fit : ((F fa * c).num.natAbs : Int) < 1000000000 ^ (ci - 1) ∧ ((F fa * c).den : Int) < 1000000000 ^ (ci - 1)) :
    am_c X (d + 4) 101 [.ref 22, .ref fi, .ref fa, .ref fb, .int (iI inv)] h (fun r h' => r = none ∧ GW h0 (h') gn go gl wk ch tk S ws st as ix pl (updR F fi (F fa * c)) W) := by
  obtain ⟨v, hv⟩ := w.ar
  have k1 := LF_ok _ hi
  have k2 := LF_ok _ ha
  have k3 := LF_ok _ hb
  simp only at k1 k2 k3
  refine am_c.mono (wp_prodF hv (w.ff _ hi) (w.ff _ ha) (w.ff _ hb) hc (LF_sepA hi) (LF_sepA ha) (LF_sepA hb) (LF_sepF hi ha) (LF_sepF hi hb) (by simp only; omega) (by simp only; omega) (by simp only; omega) b1 b2 hPR fit) (fun r h' q => ?_)
  obtain ⟨rfl, q1, q2, q3⟩ := q
  exact ⟨rfl, w.setF hi q1 q2 (frA_frI q3)⟩
theorem gw_add {d fi ci fa ca fb cb P R : Nat} {b' : Rat} {way : Int} (w : GW h0 (h) gn go gl wk ch tk S ws st as ix pl F W) (hi : (fi, ci) ∈ LF) (ha : (fa, ca) ∈ LF) (hb : (fb, cb) ∈ LF) (hw : -1 ≤ way ∧ way ≤ 1) (ebd : b'.den = (F fb).den) (ebn : b'.num.natAbs = (F fb).num.natAbs) (ebs : b'.num.sign = (F fb).num.sign * way) (b1 : qB P (F fa)) (b2 : qB R (F fb)) (hPR : P + R ≤ 126) (fit : qB (ci - 1) (F fa + b')) :
    am_c X (d + 4) 85 [.ref 22, .ref fi, .ref fa, .ref fb, .int (iI way)] h (fun r h' => r = none ∧ GW h0 (h') gn go gl wk ch tk S ws st as ix pl (updR F fi (F fa + b')) W) := by
  obtain ⟨v, hv⟩ := w.ar
  have k1 := LF_ok _ hi
  have k2 := LF_ok _ ha
  have k3 := LF_ok _ hb
  simp only at k1 k2 k3
  refine am_c.mono (wp_addF hv (w.ff _ hi) (w.ff _ ha) (w.ff _ hb) hw ebd ebn ebs (LF_sepA hi) (LF_sepA ha) (LF_sepA hb) (by simp only; omega) (by simp only; omega) (by simp only; omega) b1 b2 hPR fit) (fun r h' q => ?_)
  obtain ⟨rfl, q1, q2, q3⟩ := q
  exact ⟨rfl, w.setF hi q1 q2 (frA_frI q3)⟩
theorem gw_sum {d fi ci fa ca fb cb P R : Nat} (w : GW h0 (h) gn go gl wk ch tk S ws st as ix pl F W) (hi : (fi, ci) ∈ LF) (ha : (fa, ca) ∈ LF) (hb : (fb, cb) ∈ LF) (b1 : qB P (F fa)) (b2 : qB R (F fb)) (hPR : P + R + 1 ≤ ci - 1) : am_c X (d + 4) 85 [.ref 22, .ref fi, .ref fa, .ref fb, .int (iI 1)] h (fun r h' => r = none ∧ GW h0 (h') gn go gl wk ch tk S ws st as ix pl (updR F fi (F fa + F fb)) W) := by
  have k1 := LF_ok _ hi
  simp only at k1
  have k100 : ∀ p ∈ LF, p.2 ≤ 100 := by decide
  have k2 := k100 _ hi
  simp only at k2
  exact gw_add w hi ha hb (by decide) rfl rfl (by rw [Int.mul_one]) b1 b2 (by omega) ((b1.add b2).mono (by omega))
theorem gw_dif {d fi ci fa ca fb cb P R : Nat} (w : GW h0 (h) gn go gl wk ch tk S ws st as ix pl F W) (hi : (fi, ci) ∈ LF) (ha : (fa, ca) ∈ LF) (hb : (fb, cb) ∈ LF) (b1 : qB P (F fa)) (b2 : qB R (F fb)) (hPR : P + R + 1 ≤ ci - 1) : am_c X (d + 4) 85 [.ref 22, .ref fi, .ref fa, .ref fb, .int (iI (-1))] h (fun r h' => r = none ∧ GW h0 (h') gn go gl wk ch tk S ws st as ix pl (updR F fi (F fa - F fb)) W) := by
  have k100 : ∀ p ∈ LF, p.2 ≤ 100 := by decide
  have k2 := k100 _ hi
  simp only at k2
  have e : F fa - F fb = F fa + -F fb := Rat.sub_eq_add_neg _ _
  rw [e]
  exact gw_add w hi ha hb (by decide) (Rat.neg_den _) (by rw [Rat.neg_num, Int.natAbs_neg]) (by rw [Rat.neg_num, Int.sign_neg]; omega) b1 b2 (by omega) ((b1.add b2.neg).mono (by omega))
theorem gw_mul {d fi ci fa ca fb cb P R : Nat} (w : GW h0 (h) gn go gl wk ch tk S ws st as ix pl F W) (hi : (fi, ci) ∈ LF) (ha : (fa, ca) ∈ LF) (hb : (fb, cb) ∈ LF) (b1 : qB P (F fa)) (b2 : qB R (F fb)) (hPR : P + R ≤ ci - 1) : am_c X (d + 4) 101 [.ref 22, .ref fi, .ref fa, .ref fb, .int (iI 0)] h (fun r h' => r = none ∧ GW h0 (h') gn go gl wk ch tk S ws st as ix pl (updR F fi (F fa * F fb)) W) := by
  have k100 : ∀ p ∈ LF, p.2 ≤ 100 := by decide
  have k2 := k100 _ hi
  simp only at k2
  exact gw_prod w hi ha hb (Or.inl ⟨rfl, rfl⟩) b1 b2 (by omega) ((b1.mul b2).mono (by omega))
theorem gw_quo {d fi ci fa ca fb cb P R : Nat} (w : GW h0 (h) gn go gl wk ch tk S ws st as ix pl F W) (hi : (fi, ci) ∈ LF) (ha : (fa, ca) ∈ LF) (hb : (fb, cb) ∈ LF) (nz : F fb ≠ 0) (b1 : qB P (F fa)) (b2 : qB R (F fb)) (hPR : P + R ≤ ci - 1) : am_c X (d + 4) 101 [.ref 22, .ref fi, .ref fa, .ref fb, .int (iI 1)] h (fun r h' => r = none ∧ GW h0 (h') gn go gl wk ch tk S ws st as ix pl (updR F fi (F fa / F fb)) W) := by
  have k100 : ∀ p ∈ LF, p.2 ≤ 100 := by decide
  have k2 := k100 _ hi
  simp only at k2
  have nn : (F fb).num ≠ 0 := fun q => nz (Rat.num_eq_zero.mp q)
  rw [Rat.div_def]
  exact gw_prod w hi ha hb (Or.inr ⟨rfl, nn, rfl⟩) b1 b2 (by omega) ((b1.mul (b2.inv nn)).mono (by omega))
theorem GW.setAr (w : GW h0 (h) gn go gl wk ch tk S ws st as ix pl F W) (ar : arX h' 22) (g : frA 22 [] h h') : GW h0 (h') gn go gl wk ch tk S ws st as ix pl F W := by
  have P := w.part (frA_frI0 (x := 23) g)
  exact ⟨w.frx (frA_frI0 (x := 23) g) (by omega), P.gr (by omega), ar, P.se (by omega) (by omega), P.sl (by omega), P.sr (by omega), P.wa (by omega), P.aa (by omega), P.e1 (by omega), P.e2 (by omega), fun p hq => P.ww p hq (by have := LW_ok p hq; omega), fun p hq => P.ff p hq (by have := LF_ok p hq; omega)⟩
/-- corner i of the side at b against the place z -/
theorem gw_sA {d b i : Nat} {z : Int} (w : GW h0 (h) gn go gl wk ch tk S ws st as ix pl F W) (hb : b = 46 ∨ b = 62) (hI : i ≤ 12) (hN : (S b).N ≤ 12) (he : (S b).e = 0 ∨ (S b).e = 1) (hpl : 0 ≤ z ∧ z ≤ 9223372036854775807) (ho : -9223372036854775808 ≤ (S b).ou i ∧ (S b).ou i ≤ 9223372036854775807) (hd : qB 15 (F (b + 6))) : am_c X (d + 3) 117 [.ref b, .int (iI i), .long (lI z), .ref 22] h (fun r h' => r = some (.int (iI (sA (S b).N (S b).e (S b).ou (F (b + 6)) i z))) ∧ GW h0 (h') gn go gl wk ch tk S ws st as ix pl F W) := by
  refine am_c.mono (wp_sA (w.sS hb) w.ar (by rcases hb with rfl | rfl <;> unfold sepA <;> omega) hI hN he hpl ho (Int.lt_of_lt_of_le hd.2 (bp_mono (by decide)))) (fun r h' q => ?_)
  obtain ⟨q1, q2, q3⟩ := q
  exact ⟨q1, w.setAr q2 q3⟩
/-! the section's own -/
theorem Sq_ext {s : Sq} {N : Nat} {e : Int} {cd ou hi ri ru : Nat → Int} {b : Nat} {sg : Int} {eo el : Rat} (w : isS h b sg N e cd ou hi ri ru eo el) : isSc h b sg (Sq.mk N e cd ou hi ri ru) := ⟨w.1, w.2.1, w.2.2.1, w.2.2.2.1, w.2.2.2.2.1, w.2.2.2.2.2.1⟩
def Sq.begin (s : Sq) (H : Int) : Sq := Sq.mk 0 0 (updI s.cd 0 0) (updI s.ou 0 0) (updI s.hi 0 H) (updI s.ri 0 0) (updI s.ru 0 1)
def Sq.add (s : Sq) (c wd dr rs rn : Int) : Sq := Sq.mk (s.N + 1) s.e (updI s.cd (s.N + 1) c) (updI s.ou (s.N + 1) (s.ou s.N + wd)) (updI s.hi (s.N + 1) (s.hi s.N - dr)) (updI s.ri (s.N + 1) rs) (updI s.ru (s.N + 1) rn)
theorem gw_begin {d b : Nat} {H : Int} (w : GW h0 (h) gn go gl wk ch tk S ws st as ix pl F W) (hb : b = 46 ∨ b = 62) : am_c X (d + 1) 57 [.ref b, .long (lI H)] h (fun r h' => r = none ∧ GW h0 (h') gn go gl wk ch tk (updS S b ((S b).begin H)) ws st as ix pl F W) := by
  refine am_c.mono (wp_sbegin (w.sS hb)) (fun r h' q => ?_)
  obtain ⟨rfl, q1, q2⟩ := q
  exact ⟨rfl, w.setS hb (Sq_ext (s := S b) q1) q2⟩
theorem gw_sadd {d b : Nat} {c wd dr rs rn : Int} (w : GW h0 (h) gn go gl wk ch tk S ws st as ix pl F W) (hb : b = 46 ∨ b = 62) (hN : (S b).N < 12) : am_c X (d + 1) 102 [.ref b, .int (iI c), .long (lI wd), .long (lI dr), .long (lI rs), .long (lI rn)] h (fun r h' => r = none ∧ GW h0 (h') gn go gl wk ch tk (updS S b ((S b).add c wd dr rs rn)) ws st as ix pl F W) := by
  refine am_c.mono (wp_sadd (w.sS hb) hN) (fun r h' q => ?_)
  obtain ⟨rfl, q1, q2⟩ := q
  exact ⟨rfl, w.setS hb (Sq_ext (s := S b) q1) q2⟩
theorem gw_cbegin {d : Nat} {H : Int} (w : GW h0 (h) gn go gl wk ch tk S ws st as ix pl F W) : am_c X (d + 2) 56 [.ref 45, .long (lI H)] h (fun r h' => r = none ∧ GW h0 (h') gn go gl (1) (0) tk (updS (updS S 46 ((S 46).begin H)) 62 ((S 62).begin H)) ws st as ix pl F W) := by
  obtain ⟨cs0, cs1⟩ := id w.se
  obtain ⟨cl0, cl1, cl2, cl3, cl4, cl5⟩ := id w.sl
  obtain ⟨cr0, cr1, cr2, cr3, cr4, cr5⟩ := id w.sr
  have cwa := w.wa
  have caa := w.aa
  refine am_c.of (Nat.le_of_ble_eq_true rfl) ?_
  show am_w _ _ _ (_, [_, _, _], _, _) _
  refine wr_aload_n rfl rfl rfl ?_
  refine wr_get (ci := 6) (f := 0) rfl rfl rfl (by assumption) rfl ?_
  refine wr_lload_n rfl rfl rfl ?_
  refine wr_cv1 (k' := 57) (ci := 7) rfl rfl rfl rfl (by assumption) rfl rfl (gw_begin w (Or.inl rfl)) (fun r h2 q => ?_)
  obtain ⟨rfl, w⟩ := q
  dsimp only [Option.toList, List.cons_append, List.nil_append]
  obtain ⟨cs0, cs1⟩ := id w.se
  have cl0 := w.sl.1
  have cr0 := w.sr.1
  have cwa := w.wa
  have caa := w.aa
  refine wr_aload_n rfl rfl rfl ?_
  refine wr_get (ci := 6) (f := 1) rfl rfl rfl (by assumption) rfl ?_
  refine wr_lload_n rfl rfl rfl ?_
  refine wr_cv1 (k' := 57) (ci := 7) rfl rfl rfl rfl (by assumption) rfl rfl (gw_begin w (Or.inr rfl)) (fun r h2 q => ?_)
  obtain ⟨rfl, w⟩ := q
  dsimp only [Option.toList, List.cons_append, List.nil_append]
  obtain ⟨cs0, cs1⟩ := id w.se
  have cl0 := w.sl.1
  have cr0 := w.sr.1
  have cwa := w.wa
  have caa := w.aa
  refine wr_aload_n rfl rfl rfl ?_
  refine wr_iconst rfl rfl ?_
  refine wr_putZ (ci := 6) (f := 2) (fs' := [_, _, _, _, _]) rfl rfl rfl (by assumption) rfl rfl (by decide) rfl (fun h1 e1 => ?_)
  have w := e1 ▸ w.setC 1 ch
  clear e1
  obtain ⟨cs0, cs1⟩ := id w.se
  refine wr_aload_n rfl rfl rfl ?_
  refine wr_iconst rfl rfl ?_
  refine wr_putI (ci := 6) (f := 4) (fs' := [_, _, _, _, _]) rfl rfl rfl (by assumption) rfl rfl rfl (fun h1 e1 => ?_)
  have w := e1 ▸ w.setC 1 0
  clear e1
  refine wr_vret rfl rfl ?_
  rw [updS_n (by decide)] at w
  exact ⟨rfl, w⟩
theorem gw_cforget {d : Nat} (w : GW h0 (h) gn go gl wk ch tk S ws st as ix pl F W) : am_c X (d + 1) 45 [.ref 45] h (fun r h' => r = none ∧ GW h0 (h') gn go gl (0) (0) tk S ws st as ix pl F W) := by
  obtain ⟨cs0, cs1⟩ := id w.se
  obtain ⟨cl0, cl1, cl2, cl3, cl4, cl5⟩ := id w.sl
  obtain ⟨cr0, cr1, cr2, cr3, cr4, cr5⟩ := id w.sr
  have cwa := w.wa
  have caa := w.aa
  refine am_c.of (Nat.le_of_ble_eq_true rfl) ?_
  show am_w _ _ _ (_, [_], _, _) _
  refine wr_aload_n rfl rfl rfl ?_
  refine wr_iconst rfl rfl ?_
  refine wr_putZ (ci := 6) (f := 2) (fs' := [_, _, _, _, _]) rfl rfl rfl (by assumption) rfl rfl (by decide) rfl (fun h1 e1 => ?_)
  have w := e1 ▸ w.setC 0 ch
  clear e1
  obtain ⟨cs0, cs1⟩ := id w.se
  refine wr_aload_n rfl rfl rfl ?_
  refine wr_iconst rfl rfl ?_
  refine wr_putI (ci := 6) (f := 4) (fs' := [_, _, _, _, _]) rfl rfl rfl (by assumption) rfl rfl rfl (fun h1 e1 => ?_)
  have w := e1 ▸ w.setC 0 0
  clear e1
  refine wr_vret rfl rfl ?_
  exact ⟨rfl, w⟩
theorem gw_corners {d : Nat} (w : GW h0 (h) gn go gl wk ch tk S ws st as ix pl F W) (hw : wk = 0 ∨ wk = 1) : am_c X (d + 1) 105 [.ref 45] h (fun r h' => r = some (.int (iI (if wk = 1 then (S 46).N + 1 + (S 62).N else 0))) ∧ h' = h) := by
  obtain ⟨cs0, cs1⟩ := id w.se
  obtain ⟨cl0, cl1, cl2, cl3, cl4, cl5⟩ := id w.sl
  obtain ⟨cr0, cr1, cr2, cr3, cr4, cr5⟩ := id w.sr
  have cwa := w.wa
  have caa := w.aa
  refine am_c.of (Nat.le_of_ble_eq_true rfl) ?_
  show am_w _ _ _ (_, [_], _, _) _
  rcases hw with rfl | rfl
  ·
    refine wr_aload_n rfl rfl rfl ?_
    refine wr_get (ci := 6) (f := 2) rfl rfl rfl (by assumption) rfl ?_
    refine wr_if_eq rfl rfl rfl (by omega) (fun c4 => ?_) (fun c4 => by exfalso; omega)
    refine wr_iconst rfl rfl ?_
    refine wr_iret rfl rfl ?_
    exact ⟨rfl, rfl⟩
  ·
    refine wr_aload_n rfl rfl rfl ?_
    refine wr_get (ci := 6) (f := 2) rfl rfl rfl (by assumption) rfl ?_
    refine wr_if_eq rfl rfl rfl (by omega) (fun c4 => by exfalso; omega) (fun c4 => ?_)
    refine wr_aload_n rfl rfl rfl ?_
    refine wr_get (ci := 6) (f := 0) rfl rfl rfl (by assumption) rfl ?_
    refine wr_get (ci := 7) (f := 6) rfl rfl rfl (by assumption) rfl ?_
    refine wr_iconst rfl rfl ?_
    refine wr_iadd rfl rfl ?_
    refine wr_aload_n rfl rfl rfl ?_
    refine wr_get (ci := 6) (f := 1) rfl rfl rfl (by assumption) rfl ?_
    refine wr_get (ci := 7) (f := 6) rfl rfl rfl (by assumption) rfl ?_
    refine wr_iadd rfl rfl ?_
    refine wr_goto rfl rfl ?_
    refine wr_iret rfl rfl ?_
    exact ⟨rfl, rfl⟩
theorem gw_sideBy {d : Nat} {z : Int} (w : GW h0 (h) gn go gl wk ch tk S ws st as ix pl F W) (hz : z = -1 ∨ z = 1) : am_c X (d + 1) 115 [.ref 45, .int (iI z)] h (fun r h' => r = some (.ref (if z = -1 then 46 else 62)) ∧ h' = h) := by
  obtain ⟨cs0, cs1⟩ := id w.se
  obtain ⟨cl0, cl1, cl2, cl3, cl4, cl5⟩ := id w.sl
  obtain ⟨cr0, cr1, cr2, cr3, cr4, cr5⟩ := id w.sr
  have cwa := w.wa
  have caa := w.aa
  refine am_c.of (Nat.le_of_ble_eq_true rfl) ?_
  show am_w _ _ _ (_, [_, _], _, _) _
  rcases hz with rfl | rfl
  ·
    refine wr_iload_n rfl rfl rfl ?_
    refine wr_iconst rfl rfl ?_
    refine wr_icmp_ne rfl rfl rfl (by omega) (by omega) (fun c2 => by exfalso; omega) (fun c2 => ?_)
    refine wr_aload_n rfl rfl rfl ?_
    refine wr_get (ci := 6) (f := 0) rfl rfl rfl (by assumption) rfl ?_
    refine wr_goto rfl rfl ?_
    refine wr_aret rfl rfl ?_
    exact ⟨rfl, rfl⟩
  ·
    refine wr_iload_n rfl rfl rfl ?_
    refine wr_iconst rfl rfl ?_
    refine wr_icmp_ne rfl rfl rfl (by omega) (by omega) (fun c2 => ?_) (fun c2 => by exfalso; omega)
    refine wr_aload_n rfl rfl rfl ?_
    refine wr_get (ci := 6) (f := 1) rfl rfl rfl (by assumption) rfl ?_
    refine wr_aret rfl rfl ?_
    exact ⟨rfl, rfl⟩
theorem gw_sideOf {d : Nat} {k : Int} (w : GW h0 (h) gn go gl wk ch tk S ws st as ix pl F W) (hk : -2147483648 ≤ k ∧ k ≤ 2147483647) (hN : (S 46).N ≤ 12) : am_c X (d + 1) 108 [.ref 45, .int (iI k)] h (fun r h' => r = some (.ref (if k < (S 46).N then 46 else 62)) ∧ h' = h) := by
  obtain ⟨cs0, cs1⟩ := id w.se
  obtain ⟨cl0, cl1, cl2, cl3, cl4, cl5⟩ := id w.sl
  obtain ⟨cr0, cr1, cr2, cr3, cr4, cr5⟩ := id w.sr
  have cwa := w.wa
  have caa := w.aa
  refine am_c.of (Nat.le_of_ble_eq_true rfl) ?_
  show am_w _ _ _ (_, [_, _], _, _) _
  by_cases c : k < (S 46).N
  · rw [if_pos c]
    refine wr_iload_n rfl rfl rfl ?_
    refine wr_aload_n rfl rfl rfl ?_
    refine wr_get (ci := 6) (f := 0) rfl rfl rfl (by assumption) rfl ?_
    refine wr_get (ci := 7) (f := 6) rfl rfl rfl (by assumption) rfl ?_
    refine wr_icmp_ge rfl rfl rfl (by omega) (by omega) (fun c8 => by exfalso; omega) (fun c8 => ?_)
    refine wr_aload_n rfl rfl rfl ?_
    refine wr_get (ci := 6) (f := 0) rfl rfl rfl (by assumption) rfl ?_
    refine wr_goto rfl rfl ?_
    refine wr_aret rfl rfl ?_
    exact ⟨rfl, rfl⟩
  · rw [if_neg c]
    refine wr_iload_n rfl rfl rfl ?_
    refine wr_aload_n rfl rfl rfl ?_
    refine wr_get (ci := 6) (f := 0) rfl rfl rfl (by assumption) rfl ?_
    refine wr_get (ci := 7) (f := 6) rfl rfl rfl (by assumption) rfl ?_
    refine wr_icmp_ge rfl rfl rfl (by omega) (by omega) (fun c8 => ?_) (fun c8 => by exfalso; omega)
    refine wr_aload_n rfl rfl rfl ?_
    refine wr_get (ci := 6) (f := 1) rfl rfl rfl (by assumption) rfl ?_
    refine wr_aret rfl rfl ?_
    exact ⟨rfl, rfl⟩
theorem gw_indexOf {d : Nat} {k : Int} (w : GW h0 (h) gn go gl wk ch tk S ws st as ix pl F W) (hk : -2147483648 ≤ k ∧ k ≤ 2147483647) (hN : (S 46).N ≤ 12) : am_c X (d + 1) 109 [.ref 45, .int (iI k)] h (fun r h' => r = some (.int (iI (if k < (S 46).N then (S 46).N - k else k - (S 46).N))) ∧ h' = h) := by
  obtain ⟨cs0, cs1⟩ := id w.se
  obtain ⟨cl0, cl1, cl2, cl3, cl4, cl5⟩ := id w.sl
  obtain ⟨cr0, cr1, cr2, cr3, cr4, cr5⟩ := id w.sr
  have cwa := w.wa
  have caa := w.aa
  refine am_c.of (Nat.le_of_ble_eq_true rfl) ?_
  show am_w _ _ _ (_, [_, _], _, _) _
  by_cases c : k < (S 46).N
  · rw [if_pos c]
    refine wr_iload_n rfl rfl rfl ?_
    refine wr_aload_n rfl rfl rfl ?_
    refine wr_get (ci := 6) (f := 0) rfl rfl rfl (by assumption) rfl ?_
    refine wr_get (ci := 7) (f := 6) rfl rfl rfl (by assumption) rfl ?_
    refine wr_icmp_ge rfl rfl rfl (by omega) (by omega) (fun c8 => by exfalso; omega) (fun c8 => ?_)
    refine wr_aload_n rfl rfl rfl ?_
    refine wr_get (ci := 6) (f := 0) rfl rfl rfl (by assumption) rfl ?_
    refine wr_get (ci := 7) (f := 6) rfl rfl rfl (by assumption) rfl ?_
    refine wr_iload_n rfl rfl rfl ?_
    refine wr_isub rfl rfl ?_
    refine wr_goto rfl rfl ?_
    refine wr_iret rfl rfl ?_
    exact ⟨rfl, rfl⟩
  · rw [if_neg c]
    refine wr_iload_n rfl rfl rfl ?_
    refine wr_aload_n rfl rfl rfl ?_
    refine wr_get (ci := 6) (f := 0) rfl rfl rfl (by assumption) rfl ?_
    refine wr_get (ci := 7) (f := 6) rfl rfl rfl (by assumption) rfl ?_
    refine wr_icmp_ge rfl rfl rfl (by omega) (by omega) (fun c8 => ?_) (fun c8 => by exfalso; omega)
    refine wr_iload_n rfl rfl rfl ?_
    refine wr_aload_n rfl rfl rfl ?_
    refine wr_get (ci := 6) (f := 0) rfl rfl rfl (by assumption) rfl ?_
    refine wr_get (ci := 7) (f := 6) rfl rfl rfl (by assumption) rfl ?_
    refine wr_isub rfl rfl ?_
    refine wr_iret rfl rfl ?_
    exact ⟨rfl, rfl⟩
theorem gw_addChoice {d c : Nat} {a : Int} (w : GW h0 (h) gn go gl wk ((c : Int)) tk S ws st as ix pl F W) (hc : c < 24) : am_c X (d + 1) 76 [.ref 45, .int (iI a)] h (fun r h' => r = none ∧ GW h0 (h') gn go gl wk (((c + 1 : Nat) : Int)) (updI tk c a) S ws st as ix pl F W) := by
  obtain ⟨cs0, cs1⟩ := id w.se
  obtain ⟨cl0, cl1, cl2, cl3, cl4, cl5⟩ := id w.sl
  obtain ⟨cr0, cr1, cr2, cr3, cr4, cr5⟩ := id w.sr
  have cwa := w.wa
  have caa := w.aa
  refine am_c.of (Nat.le_of_ble_eq_true rfl) ?_
  show am_w _ _ _ (_, [_, _], _, _) _
  refine wr_aload_n rfl rfl rfl ?_
  refine wr_get (ci := 6) (f := 4) rfl rfl rfl (by assumption) rfl ?_
  refine wr_aload_n rfl rfl rfl ?_
  refine wr_get (ci := 6) (f := 3) rfl rfl rfl (by assumption) rfl ?_
  refine wr_alen rfl rfl (by assumption) (by decide) ?_
  refine wr_icmp_ge rfl rfl rfl (by omega) (by omega) (fun c9 => by exfalso; omega) (fun c9 => ?_)
  refine wr_aload_n rfl rfl rfl ?_
  refine wr_get (ci := 6) (f := 3) rfl rfl rfl (by assumption) rfl ?_
  refine wr_aload_n rfl rfl rfl ?_
  refine wr_get (ci := 6) (f := 4) rfl rfl rfl (by assumption) rfl ?_
  refine wr_iload_n rfl rfl rfl ?_
  refine wr_iast rfl rfl (by assumption) (by omega) (by omega) (fun h1 e1 => ?_)
  have w := e1 ▸ w.setT (updI tk c a)
  clear e1
  obtain ⟨cs0, cs1⟩ := id w.se
  refine wr_aload_n rfl rfl rfl ?_
  refine wr_dup rfl rfl ?_
  refine wr_get (ci := 6) (f := 4) rfl rfl rfl (by assumption) rfl ?_
  refine wr_iconst rfl rfl ?_
  refine wr_iadd rfl rfl ?_
  refine wr_putI (ci := 6) (f := 4) (fs' := [_, _, _, _, _]) rfl rfl rfl (by assumption) rfl rfl rfl (fun h1 e1 => ?_)
  have w := e1 ▸ w.setC wk ((c + 1 : Nat) : Int)
  clear e1
  refine wr_vret rfl rfl ?_
  exact ⟨rfl, w⟩
theorem gw_choiceAt {d c : Nat} {k : Int} (w : GW h0 (h) gn go gl wk ((c : Int)) tk S ws st as ix pl F W) (hc : c ≤ 24) (hk : -2147483648 ≤ k ∧ k ≤ 2147483647) : am_c X (d + 1) 120 [.ref 45, .int (iI k)] h (fun r h' => r = some (.int (iI (if 0 ≤ k ∧ k < c then tk k.toNat else -1))) ∧ h' = h) := by
  obtain ⟨cs0, cs1⟩ := id w.se
  obtain ⟨cl0, cl1, cl2, cl3, cl4, cl5⟩ := id w.sl
  obtain ⟨cr0, cr1, cr2, cr3, cr4, cr5⟩ := id w.sr
  have cwa := w.wa
  have caa := w.aa
  refine am_c.of (Nat.le_of_ble_eq_true rfl) ?_
  show am_w _ _ _ (_, [_, _], _, _) _
  refine wr_iload_n rfl rfl rfl ?_
  refine wr_if_lt rfl rfl rfl (by omega) (fun c1 => ?_) (fun c1 => ?_)
  ·
    refine wr_iconst rfl rfl ?_
    refine wr_iret rfl rfl ?_
    first | (exfalso; omega) | exact ⟨by rw [if_pos (by omega)], rfl⟩ | exact ⟨by rw [if_neg (by omega)], rfl⟩
  ·
    refine wr_iload_n rfl rfl rfl ?_
    refine wr_aload_n rfl rfl rfl ?_
    refine wr_get (ci := 6) (f := 4) rfl rfl rfl (by assumption) rfl ?_
    refine wr_icmp_ge rfl rfl rfl (by omega) (by omega) (fun c9 => ?_) (fun c9 => ?_)
    ·
      refine wr_iconst rfl rfl ?_
      refine wr_iret rfl rfl ?_
      first | (exfalso; omega) | exact ⟨by rw [if_pos (by omega)], rfl⟩ | exact ⟨by rw [if_neg (by omega)], rfl⟩
    ·
      refine wr_aload_n rfl rfl rfl ?_
      refine wr_get (ci := 6) (f := 3) rfl rfl rfl (by assumption) rfl ?_
      refine wr_iload_n rfl rfl rfl ?_
      refine wr_iald rfl rfl (by assumption) (by omega) (by omega) ?_
      refine wr_goto rfl rfl ?_
      refine wr_iret rfl rfl ?_
      first | (exfalso; omega) | exact ⟨by rw [if_pos (by omega)], rfl⟩ | exact ⟨by rw [if_neg (by omega)], rfl⟩
theorem gw_aforget {d : Nat} (w : GW h0 (h) gn go gl wk ch tk S ws st as ix pl F W) : am_c X (d + 1) 58 [.ref 95] h (fun r h' => r = none ∧ GW h0 (h') gn go gl wk ch tk S ws (0) as ix pl F W) := by
  obtain ⟨cs0, cs1⟩ := id w.se
  obtain ⟨cl0, cl1, cl2, cl3, cl4, cl5⟩ := id w.sl
  obtain ⟨cr0, cr1, cr2, cr3, cr4, cr5⟩ := id w.sr
  have cwa := w.wa
  have caa := w.aa
  refine am_c.of (Nat.le_of_ble_eq_true rfl) ?_
  show am_w _ _ _ (_, [_], _, _) _
  refine wr_aload_n rfl rfl rfl ?_
  refine wr_iconst rfl rfl ?_
  refine wr_putZ (ci := 10) (f := 5) (fs' := [_, _, _, _, _, _, _, _, _, _, _, _, _, _]) rfl rfl rfl (by assumption) rfl rfl (by decide) rfl (fun h1 e1 => ?_)
  have w := e1 ▸ w.setA 0 as ix pl
  clear e1
  refine wr_vret rfl rfl ?_
  exact ⟨rfl, w⟩
end WLD
