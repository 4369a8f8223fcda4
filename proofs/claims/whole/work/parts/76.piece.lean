/-! A PIECE'S SHARE: how large its parts are -/
theorem den_div {q : Rat} {a b : Int} (h : q = (a : Rat) / (b : Rat)) (hb : b ≠ 0) : (q.den : Int) ≤ b.natAbs := by
  have pos : ∀ (x : Int) (n : Nat), 0 < n → (Rat.divInt x n).den ≤ n := fun x n hn => by
    have e := mk_parts (u := x) (n := n) hn rfl
    rw [e.2.1]
    exact Nat.div_le_self _ _
  rw [h, ← divQ]
  rcases Int.lt_trichotomy b 0 with c | c | c
  · have e : Rat.divInt a b = Rat.divInt (-a) (-b) := by rw [divQ, divQ]; grind
    rw [e]
    have := pos (-a) b.natAbs (by omega)
    rw [show ((b.natAbs : Nat) : Int) = -b by omega] at this
    omega
  · exact absurd c hb
  · have := pos a b.natAbs (by omega)
    rw [show ((b.natAbs : Nat) : Int) = b by omega] at this
    omega
/-- a piece between x and y: the ground rises dv over d, the section ri over ru; the gap at an end is A over 1000 m -/
theorem tri_form {z a b w Z m K d r q : Rat} (hz : z = Z / (1000 * m)) (hm : m ≠ 0) (hq : q * m = d * r) (hd : d ≠ 0) (hr : r ≠ 0) (hK : K ≠ 0) (hw : w ≠ 0) (hab : a - b = w * K / (d * r)) : z * z * (w / 2) / (a - b) = Z * Z * q / (2000000 * m * K) := by
  have e1 : a - b ≠ 0 := by
    rw [hab]
    grind
  have e2 : (a - b) * (d * r) = w * K := by grind
  have e3 : z * (1000 * m) = Z := by grind
  have e4 : z * z * (w / 2) * (2000000 * m * K) = Z * Z * q * (a - b) := by
    rw [← e3]
    have : w * K = (a - b) * (q * m) := by rw [hq]; grind
    grind
  have e5 : (2000000 * m * K) ≠ 0 := by grind
  grind
def shB (q : Rat) : Prop := 0 ≤ q ∧ q ≤ 100000000000000000000000 ∧ (q.den : Int) ≤ 100000000000000000000000
theorem shB0 : shB 0 := ⟨by decide, by decide, by decide⟩
theorem tri_nn {z w s : Rat} (hw : 0 < w) (hs : 0 < s) : 0 ≤ z * z * (w / 2) / s := by
  refine q_div_nn (q_mul_nn ?_ (by grind)) hs
  by_cases c : 0 ≤ z
  · exact q_mul_nn c c
  · have := q_mul_nn (a := -z) (b := -z) (by grind) (by grind)
    grind
/-- a triangle is no larger than its gap by half the width -/
theorem tri_le {z w s : Rat} (hz : 0 ≤ z) (hw : 0 < w) (hs : 0 < s) (h : z ≤ s) : z * z * (w / 2) / s ≤ z * (w / 2) := by
  have e : z * z * (w / 2) / s = z * (w / 2) * (z / s) := by grind
  have a : 0 ≤ z * (w / 2) := q_mul_nn hz (by grind)
  have b : 0 ≤ (s - z) / s := q_div_nn (by grind) hs
  have c := q_mul_nn a b
  have d : (s - z) / s = 1 - z / s := by grind
  rw [d] at c
  rw [e]
  grind
theorem q_mul_le {x y A B : Rat} (hx : 0 ≤ x) (hy : 0 ≤ y) (h1 : x ≤ A) (h2 : y ≤ B) : x * y ≤ A * B := by
  have a := q_mul_nn (a := A - x) (b := B) (by grind) (by grind)
  have b := q_mul_nn (a := x) (b := B - y) hx (by grind)
  grind
def nice (d ru : Int) (z : Rat) : Prop := ∃ Z m q : Int, z = (Z : Rat) / (1000 * (m : Rat)) ∧ 0 < m ∧ m ≤ 200000 ∧ q * m = d * ru
theorem nice_d {d ru Z : Int} {z : Rat} (hd : 0 < d ∧ d ≤ 200000) (h : z = (Z : Rat) / (1000 * (d : Rat))) : nice d ru z := ⟨Z, d, ru, h, hd.1, hd.2, Int.mul_comm _ _⟩
theorem nice_r {d ru Z : Int} {z : Rat} (hr : 0 < ru ∧ ru ≤ 99999) (h : z = (Z : Rat) / (1000 * (ru : Rat))) : nice d ru z := ⟨Z, ru, d, h, hr.1, by omega, rfl⟩
def pcH (a b w : Rat) (d ru K : Int) : Prop :=
  (0 < d ∧ d ≤ 200000) ∧
  (0 < ru ∧ ru ≤ 99999) ∧
  (-40000000000 ≤ K ∧ K ≤ 40000000000) ∧
  (0 < w ∧ w ≤ 100000000000000) ∧
  (a - b = w * K / (d * ru)) ∧
  (nice d ru a) ∧
  (b = 0 ∨ (nice d ru b ∧ ∃ wi : Int, w = wi)) ∧
  (-1000000000 ≤ a ∧ a ≤ 1000000000) ∧
  (-1000000000 ≤ b ∧ b ≤ 1000000000)
theorem pcH.hd {a b w : Rat} {d ru K : Int} (zz : pcH a b w d ru K) : 0 < d ∧ d ≤ 200000 := zz.1
theorem pcH.hr {a b w : Rat} {d ru K : Int} (zz : pcH a b w d ru K) : 0 < ru ∧ ru ≤ 99999 := zz.2.1
theorem pcH.hK {a b w : Rat} {d ru K : Int} (zz : pcH a b w d ru K) : -40000000000 ≤ K ∧ K ≤ 40000000000 := zz.2.2.1
theorem pcH.hw {a b w : Rat} {d ru K : Int} (zz : pcH a b w d ru K) : 0 < w ∧ w ≤ 100000000000000 := zz.2.2.2.1
theorem pcH.hab {a b w : Rat} {d ru K : Int} (zz : pcH a b w d ru K) : a - b = w * K / (d * ru) := zz.2.2.2.2.1
theorem pcH.na {a b w : Rat} {d ru K : Int} (zz : pcH a b w d ru K) : nice d ru a := zz.2.2.2.2.2.1
theorem pcH.nb {a b w : Rat} {d ru K : Int} (zz : pcH a b w d ru K) : b = 0 ∨ (nice d ru b ∧ ∃ wi : Int, w = wi) := zz.2.2.2.2.2.2.1
theorem pcH.va {a b w : Rat} {d ru K : Int} (zz : pcH a b w d ru K) : -1000000000 ≤ a ∧ a ≤ 1000000000 := zz.2.2.2.2.2.2.2.1
theorem pcH.vb {a b w : Rat} {d ru K : Int} (zz : pcH a b w d ru K) : -1000000000 ≤ b ∧ b ≤ 1000000000 := zz.2.2.2.2.2.2.2.2
theorem tri_den {a b w z : Rat} {d ru K : Int} (hd : 0 < d ∧ d ≤ 200000) (hr : 0 < ru ∧ ru ≤ 99999) (hK : -40000000000 ≤ K ∧ K ≤ 40000000000) (hw : 0 < w) (hab : a - b = w * K / (d * ru)) (K0 : K ≠ 0) (hz : nice d ru z) : (((z * z * (w / 2) / (a - b)).den : Nat) : Int) ≤ 100000000000000000000000 ∧ (((z * z * (w / 2) / (b - a)).den : Nat) : Int) ≤ 100000000000000000000000 := by
  obtain ⟨Z, m, q, e, m1, m2, hq⟩ := hz
  have dq : (d : Rat) ≠ 0 := by have := q_pos hd.1; grind
  have rq : (ru : Rat) ≠ 0 := by have := q_pos hr.1; grind
  have mq : (m : Rat) ≠ 0 := by have := q_pos m1; grind
  have Kq : (K : Rat) ≠ 0 := fun x => K0 (by exact_mod_cast x)
  have hq' : (q : Rat) * m = d * ru := by exact_mod_cast hq
  have f := tri_form (z := z) (a := a) (b := b) (w := w) (Z := Z) (m := m) (K := K) (d := d) (r := ru) (q := q) e mq hq' dq rq Kq (by grind) hab
  have f2 : z * z * (w / 2) / (b - a) = -(z * z * (w / 2) / (a - b)) := by grind
  have mm := mulB (a := m) (b := K) (A := 200000) (B := 40000000000) (by omega) hK
  have nz : m * K ≠ 0 := Int.mul_ne_zero (by omega) K0
  have g1 : z * z * (w / 2) / (a - b) = ((Z * Z * q : Int) : Rat) / ((2000000 * (m * K) : Int) : Rat) := by
    rw [f]
    have e1 : ((Z * Z * q : Int) : Rat) = (Z : Rat) * Z * q := by grind
    have e2 : ((2000000 * (m * K) : Int) : Rat) = 2000000 * m * K := by grind
    rw [e1, e2]
  have g2 : z * z * (w / 2) / (b - a) = ((-(Z * Z * q) : Int) : Rat) / ((2000000 * (m * K) : Int) : Rat) := by
    rw [f2, g1]
    have e1 : ((-(Z * Z * q) : Int) : Rat) = -((Z * Z * q : Int) : Rat) := by grind
    rw [e1]
    grind
  have h1 := den_div g1 (by omega)
  have h2 := den_div g2 (by omega)
  omega
theorem sub_z {a : Rat} : a - 0 = a := by grind
theorem trap_form {a b x y wi y0 : Rat} (h : y0 ≠ 0) (x1 : a * (1000 * y0) = x) (x2 : b * (1000 * y0) = y) : (a + b) * (wi / 2) = (x + y) * wi / (2000 * y0) := by
  rw [← x1, ← x2]
  grind
theorem end_tri {a w : Rat} (a0 : a ≠ 0) : (a + 0) * (w / 2) = a * a * (w / 2) / (a - 0) := by grind
theorem z_div {w d r : Rat} : w * ((0 : Int) : Rat) / (d * r) = 0 := by grind
theorem z_mul {w : Rat} : (0 + 0 : Rat) * (w / 2) = 0 := by grind
theorem pcH.share {a b w : Rat} {d ru K : Int} (H : pcH a b w d ru K) : shB (pcC a b w) ∧ shB (pcF a b w) := by
  obtain ⟨hd, hr, hK, hw, hab, na, nb, va, vb⟩ := H
  have W : (w / 2) ≤ 50000000000000 := by grind
  have dq : (0 : Rat) < d := q_pos hd.1
  have rq : (0 : Rat) < ru := q_pos hr.1
  by_cases o : opp a b
  · have K0 : K ≠ 0 := by
      intro x
      rw [x] at hab
      unfold opp at o
      rw [z_div] at hab
      clear nb na W dq rq hw hK hr hd va vb x
      grind
    have nb2 : nice d ru b := by
      rcases nb with x | ⟨x, -⟩
      · rw [x] at o; unfold opp at o; grind
      · exact x
    have ta := tri_den hd hr hK hw.1 hab K0 na
    have tb := tri_den hd hr hK hw.1 hab K0 nb2
    unfold pcC pcF
    rw [if_pos o, if_pos o]
    unfold opp at o
    by_cases c : 0 < a
    · rw [if_pos c, if_pos c]
      have s : 0 < a - b := by grind
      refine ⟨⟨tri_nn hw.1 s, ?_, ta.1⟩, ⟨tri_nn hw.1 s, ?_, tb.1⟩⟩
      · have := tri_le (z := a) (w := w) (s := a - b) (by grind) hw.1 s (by grind)
        have := q_mul_le (x := a) (y := w / 2) (A := 1000000000) (B := 50000000000000) (by grind) (by grind) va.2 W
        grind
      · have := tri_le (z := -b) (w := w) (s := a - b) (by grind) hw.1 s (by grind)
        have := q_mul_le (x := -b) (y := w / 2) (A := 1000000000) (B := 50000000000000) (by grind) (by grind) (by grind) W
        grind
    · rw [if_neg c, if_neg c]
      have s : 0 < b - a := by grind
      refine ⟨⟨tri_nn hw.1 s, ?_, tb.2⟩, ⟨tri_nn hw.1 s, ?_, ta.2⟩⟩
      · have := tri_le (z := b) (w := w) (s := b - a) (by grind) hw.1 s (by grind)
        have := q_mul_le (x := b) (y := w / 2) (A := 1000000000) (B := 50000000000000) (by grind) (by grind) vb.2 W
        grind
      · have := tri_le (z := -a) (w := w) (s := b - a) (by grind) hw.1 s (by grind)
        have := q_mul_le (x := -a) (y := w / 2) (A := 1000000000) (B := 50000000000000) (by grind) (by grind) (by grind) W
        grind
  · have D : (((a + b) * (w / 2)).den : Int) ≤ 100000000000000000000000 ∧ ((-(a + b) * (w / 2)).den : Int) ≤ 100000000000000000000000 := by
      have neg : -(a + b) * (w / 2) = -((a + b) * (w / 2)) := by grind
      rw [neg, Rat.neg_den]
      refine (fun x => ⟨x, x⟩) ?_
      rcases nb with x | ⟨⟨B, m', q', e', p1, p2, hq'⟩, wi, ew⟩
      · by_cases a0 : a = 0
        · rw [a0, x]
          rw [z_mul]
          decide
        · have K0 : K ≠ 0 := by
            intro y
            rw [y, x, z_div] at hab
            exact a0 (by rw [← hab, sub_z])
          have t := (tri_den hd hr hK hw.1 hab K0 na).1
          have : (a + b) * (w / 2) = a * a * (w / 2) / (a - b) := by rw [x]; exact end_tri a0
          rw [this]
          exact t
      · obtain ⟨A, m, q, e, m1, m2, hq⟩ := na
        have mq := q_pos m1
        have mq' := q_pos p1
        have h1 : (q : Rat) * m = d * ru := by exact_mod_cast hq
        have h2 : (q' : Rat) * m' = d * ru := by exact_mod_cast hq'
        have mm := mulB (a := d) (b := ru) (A := 200000) (B := 99999) (by omega) (by omega)
        have nz : d * ru ≠ 0 := Int.mul_ne_zero (by omega) (by omega)
        have f : (a + b) * (w / 2) = (((A * q + B * q') * wi : Int) : Rat) / ((2000 * (d * ru) : Int) : Rat) := by
          have e1 : (((A * q + B * q') * wi : Int) : Rat) = ((A : Rat) * q + B * q') * wi := by grind
          have e2 : ((2000 * (d * ru) : Int) : Rat) = 2000 * (d * ru) := by grind
          have x1 : a * (1000 * (d * ru)) = A * q := by rw [e, ← h1]; grind
          have x2 : b * (1000 * (d * ru)) = B * q' := by rw [e', ← h2]; grind
          have nzq : (d * ru : Rat) ≠ 0 := Ne.symm (Rat.ne_of_lt (Rat.mul_pos dq rq))
          rw [e1, e2, ew]
          exact trap_form nzq x1 x2
        have := den_div f (by omega)
        omega
    unfold pcC pcF
    rw [if_neg o, if_neg o]
    by_cases c : 0 < a + b
    · rw [if_pos c, if_pos c]
      refine ⟨⟨q_mul_nn (by grind) (by grind), ?_, D.1⟩, shB0⟩
      have := q_mul_le (x := a + b) (y := w / 2) (A := 2000000000) (B := 50000000000000) (by grind) (by grind) (by grind) W
      grind
    · rw [if_neg c, if_neg c]
      refine ⟨shB0, ⟨q_mul_nn (by grind) (by grind), ?_, D.2⟩⟩
      have := q_mul_le (x := -(a + b)) (y := w / 2) (A := 2000000000) (B := 50000000000000) (by grind) (by grind) (by grind) W
      grind
/-! A WALKED SIDE, PURELY: its corners, its ways, the gap to the ground -/
def OuQ (s : Sq) (eo : Rat) (i : Nat) : Rat := if s.e = 1 ∧ i = s.N then eo else s.ou i
def LvQ (s : Sq) (el : Rat) (i : Nat) : Rat := if s.e = 1 ∧ i = s.N then el else (s.hi i : Rat) / 1000
def secQ (s : Sq) (i : Nat) (x : Rat) : Rat := (s.hi (i - 1) : Rat) / 1000 + (s.ri i : Rat) / s.ru i * (x - s.ou (i - 1))
def gapQ (n : Nat) (off lev : Nat → Int) (sg : Int) (s : Sq) (i : Nat) (x : Rat) : Rat := Lo n off lev sg x - secQ s i x
def sdH (n : Nat) (off lev : Nat → Int) (sg : Int) (s : Sq) (eo el : Rat) : Prop :=
  (okB s) ∧
  (s.ou 0 = 0) ∧
  (∀ i, i < s.N → s.ou i ≤ s.ou (i + 1)) ∧
  (∀ i, i < s.N → (s.e = 0 ∨ i + 1 < s.N) → (s.hi (i + 1) - s.hi i) * s.ru (i + 1) = 1000 * s.ri (i + 1) * (s.ou (i + 1) - s.ou i) ∧ (-99999 ≤ s.ri (i + 1) ∧ s.ri (i + 1) ≤ 99999) ∧ (0 ≤ s.ru (i + 1) ∧ s.ru (i + 1) ≤ 99999) ∧ (s.ou i < s.ou (i + 1) → 0 < s.ru (i + 1))) ∧
  (s.e = 1 → 0 < s.N ∧ s.ou s.N = s.ou (s.N - 1) ∧ s.hi s.N = s.hi (s.N - 1) ∧ ((s.ou s.N : Rat) ≤ eo ∧ eo ≤ 50000000000000) ∧ Lo n off lev sg eo = el ∧ ((-99999 ≤ s.ri s.N ∧ s.ri s.N ≤ 99999) ∧ 0 < s.ru s.N ∧ s.ru s.N ≤ 99999) ∧ ((s.ou s.N : Rat) < eo → el = (s.hi s.N : Rat) / 1000 + (s.ri s.N : Rat) / s.ru s.N * (eo - s.ou s.N)) ∧ (∃ a d : Int, eo = (a : Rat) / (d : Rat) ∧ 0 < d ∧ d ≤ 60000000000000 ∧ -10000000000000000000000 ≤ a ∧ a ≤ 10000000000000000000000)) ∧
  (s.ri 0 = 0 ∧ s.ru 0 = 1)
theorem sdH.ok {n : Nat} {off lev : Nat → Int} {sg : Int} {s : Sq} {eo el : Rat} (zz : sdH n off lev sg s eo el) : okB s := zz.1
theorem sdH.o0 {n : Nat} {off lev : Nat → Int} {sg : Int} {s : Sq} {eo el : Rat} (zz : sdH n off lev sg s eo el) : s.ou 0 = 0 := zz.2.1
theorem sdH.mono {n : Nat} {off lev : Nat → Int} {sg : Int} {s : Sq} {eo el : Rat} (zz : sdH n off lev sg s eo el) : ∀ i, i < s.N → s.ou i ≤ s.ou (i + 1) := zz.2.2.1
theorem sdH.reg {n : Nat} {off lev : Nat → Int} {sg : Int} {s : Sq} {eo el : Rat} (zz : sdH n off lev sg s eo el) : ∀ i, i < s.N → (s.e = 0 ∨ i + 1 < s.N) → (s.hi (i + 1) - s.hi i) * s.ru (i + 1) = 1000 * s.ri (i + 1) * (s.ou (i + 1) - s.ou i) ∧ (-99999 ≤ s.ri (i + 1) ∧ s.ri (i + 1) ≤ 99999) ∧ (0 ≤ s.ru (i + 1) ∧ s.ru (i + 1) ≤ 99999) ∧ (s.ou i < s.ou (i + 1) → 0 < s.ru (i + 1)) := zz.2.2.2.1
theorem sdH.fin {n : Nat} {off lev : Nat → Int} {sg : Int} {s : Sq} {eo el : Rat} (zz : sdH n off lev sg s eo el) : s.e = 1 → 0 < s.N ∧ s.ou s.N = s.ou (s.N - 1) ∧ s.hi s.N = s.hi (s.N - 1) ∧ ((s.ou s.N : Rat) ≤ eo ∧ eo ≤ 50000000000000) ∧ Lo n off lev sg eo = el ∧ ((-99999 ≤ s.ri s.N ∧ s.ri s.N ≤ 99999) ∧ 0 < s.ru s.N ∧ s.ru s.N ≤ 99999) ∧ ((s.ou s.N : Rat) < eo → el = (s.hi s.N : Rat) / 1000 + (s.ri s.N : Rat) / s.ru s.N * (eo - s.ou s.N)) ∧ (∃ a d : Int, eo = (a : Rat) / (d : Rat) ∧ 0 < d ∧ d ≤ 60000000000000 ∧ -10000000000000000000000 ≤ a ∧ a ≤ 10000000000000000000000) := zz.2.2.2.2.1
theorem sdH.z0 {n : Nat} {off lev : Nat → Int} {sg : Int} {s : Sq} {eo el : Rat} (zz : sdH n off lev sg s eo el) : s.ri 0 = 0 ∧ s.ru 0 = 1 := zz.2.2.2.2.2
/-- x is where the way to corner i begins, or a point of the ground -/
def brk (n : Nat) (off : Nat → Int) (sg : Int) (s : Sq) (i : Nat) (x : Int) : Prop := x = s.ou (i - 1) ∨ ∃ j, j < n ∧ x = uO n off sg j
theorem Lo_in {n : Nat} {off lev : Nat → Int} {sg : Int} {x : Rat} (ok : okG n off lev) (hs : sg = 1 ∨ sg = -1) : -100000 ≤ Lo n off lev sg x ∧ Lo n off lev sg x ≤ 100000 := by
  have iq : ∀ a : Int, -100000 ≤ a ∧ a ≤ 100000 → (-100000 : Rat) ≤ a ∧ (a : Rat) ≤ 100000 := fun a h => ⟨Rat.intCast_le_intCast.mpr h.1, Rat.intCast_le_intCast.mpr h.2⟩
  by_cases n0 : n = 0
  · subst n0
    rw [Lo_none]
    exact ⟨by decide, by decide⟩
  by_cases h1 : x ≤ uO n off sg 0
  · rw [Lo_first ok hs (by omega) h1]
    exact iq _ (vO_in ok)
  by_cases h2 : (uO n off sg (n - 1) : Rat) ≤ x
  · rw [Lo_last ok hs (by omega) h2]
    exact iq _ (vO_in ok)
  · -- between two points
    have : ∀ m : Nat, m + 1 ≤ n → (x ≤ uO n off sg m) → ∃ i, i + 1 < n ∧ (uO n off sg i : Rat) ≤ x ∧ x ≤ uO n off sg (i + 1) := by
      intro m
      induction m with
      | zero => intro _ q; exact absurd q h1
      | succ z ih =>
        intro hz q
        by_cases c : x ≤ uO n off sg z
        · exact ih (by omega) c
        · exact ⟨z, by omega, by grind, q⟩
    obtain ⟨i, hi, a, b⟩ := this (n - 1) (by omega) (by grind)
    have m := Lo_mid (lev := lev) ok hs hi a b
    have lt : (uO n off sg i : Rat) < uO n off sg (i + 1) := Rat.intCast_lt_intCast.mpr (uO_mono ok hs (by omega) hi)
    have v1 := iq _ (vO_in (j := i) (sg := sg) ok)
    have v2 := iq _ (vO_in (j := i + 1) (sg := sg) ok)
    rw [m]
    generalize (uO n off sg i : Rat) = p at *
    generalize (uO n off sg (i + 1) : Rat) = q at *
    generalize (vO n lev sg i : Rat) = v at *
    generalize (vO n lev sg (i + 1) : Rat) = w at *
    have t0 : 0 ≤ (x - p) / (q - p) := q_div_nn (by grind) (by grind)
    have t1 : 0 ≤ (q - x) / (q - p) := q_div_nn (by grind) (by grind)
    have t2 : (q - x) / (q - p) + (x - p) / (q - p) = 1 := by grind
    have e : v + (w - v) * (x - p) / (q - p) = v * ((q - x) / (q - p)) + w * ((x - p) / (q - p)) := by grind
    rw [e]
    have a1 := q_mul_nn (a := 100000 - v) (b := (q - x) / (q - p)) (by grind) t1
    have a2 := q_mul_nn (a := 100000 - w) (b := (x - p) / (q - p)) (by grind) t0
    have a3 := q_mul_nn (a := 100000 + v) (b := (q - x) / (q - p)) (by grind) t1
    have a4 := q_mul_nn (a := 100000 + w) (b := (x - p) / (q - p)) (by grind) t0
    generalize (q - x) / (q - p) = s at *
    generalize (x - p) / (q - p) = t at *
    grind
/-- the ground from x on, up to the next point, is a line -/
theorem Lo_line {n : Nat} {off lev : Nat → Int} {sg x : Int} (ok : okG n off lev) (hs : sg = 1 ∨ sg = -1) : ∃ d dv c : Int, (0 < d ∧ d ≤ 200000) ∧ (-200000 ≤ dv ∧ dv ≤ 200000) ∧ (∀ t : Rat, (x : Rat) ≤ t → (kO n off sg x < n → t ≤ uO n off sg (kO n off sg x)) → Lo n off lev sg t = ((c : Rat) + dv * (t - x)) / d) := by
  have s := gk_spec n (uO n off sg) x
  have ek : kO n off sg x = gk n (uO n off sg) x := rfl
  rw [ek]
  generalize gk n (uO n off sg) x = k at *
  have vk := vO_in (j := k) (sg := sg) ok
  have vk1 := vO_in (j := k - 1) (sg := sg) ok
  have uk := uO_in (j := k) ok hs
  have uk1 := uO_in (j := k - 1) ok hs
  by_cases n0 : n = 0
  · subst n0
    exact ⟨1, 0, 0, by omega, by omega, fun t _ _ => by rw [Lo_none]; grind⟩
  by_cases k0 : k = 0
  · subst k0
    refine ⟨1, 0, vO n lev sg 0, by omega, by omega, fun t h1 h2 => ?_⟩
    rw [Lo_first ok hs (by omega) (h2 (by omega))]
    grind
  by_cases kn : k < n
  · have m := uO_mono ok hs (i := k - 1) (j := k) (by omega) kn
    have ge : (uO n off sg (k - 1) : Rat) ≤ x := Rat.intCast_le_intCast.mpr (s.2.1 (k - 1) (by omega))
    refine ⟨uO n off sg k - uO n off sg (k - 1), vO n lev sg k - vO n lev sg (k - 1), vO n lev sg (k - 1) * (uO n off sg k - uO n off sg (k - 1)) + (vO n lev sg k - vO n lev sg (k - 1)) * (x - uO n off sg (k - 1)), by omega, by omega, fun t h1 h2 => ?_⟩
    have mid := Lo_mid (lev := lev) ok hs (i := k - 1) (x := t) (by omega) (Rat.le_trans ge h1) (by rw [show k - 1 + 1 = k by omega]; exact h2 kn)
    rw [show k - 1 + 1 = k by omega] at mid
    rw [mid]
    have nz : (uO n off sg k : Rat) - uO n off sg (k - 1) ≠ 0 := by
      have : (uO n off sg (k - 1) : Rat) < uO n off sg k := Rat.intCast_lt_intCast.mpr m
      grind
    generalize uO n off sg k = a at *
    generalize uO n off sg (k - 1) = b at *
    generalize vO n lev sg k = v at *
    generalize vO n lev sg (k - 1) = w at *
    clear mid m s ge
    grind
  · refine ⟨1, 0, vO n lev sg (n - 1), by omega, by omega, fun t h1 h2 => ?_⟩
    have ge : (uO n off sg (n - 1) : Rat) ≤ x := Rat.intCast_le_intCast.mpr (s.2.1 (n - 1) (by omega))
    rw [Lo_last ok hs (by omega) (Rat.le_trans ge h1)]
    grind
theorem lin_bd {A B p q t M : Rat} (h1 : p ≤ t) (h2 : t ≤ q) (a : -M ≤ A ∧ A ≤ M) (b : -M ≤ A + B * (q - p) ∧ A + B * (q - p) ≤ M) : -M ≤ A + B * (t - p) ∧ A + B * (t - p) ≤ M := by
  by_cases c : 0 ≤ B
  · have x1 := q_mul_nn c (show 0 ≤ t - p by grind)
    have x2 := q_mul_nn c (show 0 ≤ q - t by grind)
    grind
  · have x1 := q_mul_nn (show 0 ≤ -B by grind) (show 0 ≤ t - p by grind)
    have x2 := q_mul_nn (show 0 ≤ -B by grind) (show 0 ≤ q - t by grind)
    grind
section SDP
variable {n : Nat} {off lev : Nat → Int} {sg : Int} {s : Sq} {eo el : Rat}
theorem hi_bd {s : Sq} {i : Nat} (o : okB s) (h : i ≤ s.N) : -200000000 ≤ (s.hi i : Rat) / 1000 ∧ (s.hi i : Rat) / 1000 ≤ 200000000 := by
  have a := o.2.2.2 i h
  have b := o.1
  have x1 : ((-200000000000 : Int) : Rat) ≤ s.hi i := Rat.intCast_le_intCast.mpr (by omega)
  have x2 : (s.hi i : Rat) ≤ ((200000000000 : Int) : Rat) := Rat.intCast_le_intCast.mpr (by omega)
  have y1 : ((-200000000000 : Int) : Rat) = -200000000000 := rfl
  have y2 : ((200000000000 : Int) : Rat) = 200000000000 := rfl
  rw [y1] at x1
  rw [y2] at x2
  grind
/-- the way to corner i ends at the corner's level -/
theorem sdH.top (H : sdH n off lev sg s eo el) {i : Nat} (h0 : 0 < i) (hi : i ≤ s.N) (hw : (s.ou (i - 1) : Rat) < OuQ s eo i) : secQ s i (OuQ s eo i) = LvQ s el i ∧ (0 < s.ru i ∧ s.ru i ≤ 99999) ∧ (-99999 ≤ s.ri i ∧ s.ri i ≤ 99999) := by
  unfold OuQ at hw ⊢
  unfold LvQ secQ
  by_cases c : s.e = 1 ∧ i = s.N
  · rw [if_pos c] at hw ⊢
    rw [if_pos c]
    have f := H.fin c.1
    rw [← c.2] at f
    obtain ⟨-, f2, f3, f4, f5, f6, f7, -⟩ := f
    rw [f2] at f4 f7
    rw [f3] at f7
    exact ⟨(f7 hw).symm, f6.2, f6.1⟩
  · rw [if_neg c] at hw ⊢
    rw [if_neg c]
    have e := H.ok.2.1
    have g := H.reg (i - 1) (by omega) (by omega)
    rw [show i - 1 + 1 = i by omega] at g
    have lt : s.ou (i - 1) < s.ou i := Rat.intCast_lt_intCast.mp hw
    have r := g.2.2.2 lt
    refine ⟨?_, ⟨r, g.2.2.1.2⟩, g.2.1⟩
    have rq := q_pos r
    have z : (((s.hi i - s.hi (i - 1)) * s.ru i : Int) : Rat) = ((1000 * s.ri i * (s.ou i - s.ou (i - 1)) : Int) : Rat) := by rw [g.1]
    have eq : ((s.hi i : Rat) - s.hi (i - 1)) * s.ru i = 1000 * s.ri i * (s.ou i - s.ou (i - 1)) := by
      clear hw g
      grind
    clear z
    generalize (s.hi i : Rat) = a at *
    generalize (s.hi (i - 1) : Rat) = b at *
    generalize (s.ru i : Rat) = r at *
    generalize (s.ri i : Rat) = k at *
    generalize (s.ou i : Rat) = o at *
    generalize (s.ou (i - 1) : Rat) = p at *
    clear hw
    grind
theorem sdH.lv_bd (H : sdH n off lev sg s eo el) (ok : okG n off lev) (hs : sg = 1 ∨ sg = -1) {i : Nat} (hi : i ≤ s.N) : -200000000 ≤ LvQ s el i ∧ LvQ s el i ≤ 200000000 := by
  unfold LvQ
  split
  · rename_i c
    have f := (H.fin c.1).2.2.2.2.1
    have := Lo_in (x := eo) ok hs (lev := lev)
    rw [f] at this
    grind
  · exact hi_bd H.ok hi
theorem sdH.sec_bd (H : sdH n off lev sg s eo el) (ok : okG n off lev) (hs : sg = 1 ∨ sg = -1) {i : Nat} (h0 : 0 < i) (hi : i ≤ s.N) {t : Rat} (h1 : (s.ou (i - 1) : Rat) ≤ t) (h2 : t ≤ OuQ s eo i) (hw : (s.ou (i - 1) : Rat) < OuQ s eo i) : -200000000 ≤ secQ s i t ∧ secQ s i t ≤ 200000000 := by
  have a := hi_bd H.ok (i := i - 1) (by omega)
  have b := H.lv_bd ok hs hi
  rw [← (H.top h0 hi hw).1] at b
  unfold secQ at b ⊢
  exact lin_bd h1 h2 a b
theorem nice_form {c dv t x h d Z : Rat} (hd : d ≠ 0) (hZ : Z = 1000 * (c + dv * (t - x)) - h * d) : (c + dv * (t - x)) / d - h / 1000 = Z / (1000 * d) := by
  rw [hZ]
  grind
theorem nice_form2 {v h r k x o Z : Rat} (hr : r ≠ 0) (hZ : Z = 1000 * v * r - h * r - 1000 * k * (x - o)) : v - (h / 1000 + k / r * (x - o)) = Z / (1000 * r) := by
  rw [hZ]
  grind
theorem gap_dif {c dv t x d h k r o : Rat} (hd : d ≠ 0) (hr : r ≠ 0) : ((c + dv * (x - x)) / d - (h / 1000 + k / r * (x - o))) - ((c + dv * (t - x)) / d - (h / 1000 + k / r * (t - o))) = (t - x) * (k * d - dv * r) / (d * r) := by
  grind
theorem sdH.piece (H : sdH n off lev sg s eo el) (ok : okG n off lev) (hs : sg = 1 ∨ sg = -1) {i : Nat} (h0 : 0 < i) (hi : i ≤ s.N) {x : Int} {y : Rat} (hx : s.ou (i - 1) ≤ x) (hxy : (x : Rat) < y) (hyO : y ≤ OuQ s eo i) (bx : brk n off sg s i x) (hk : kO n off sg x < n → y ≤ uO n off sg (kO n off sg x)) (hy : (s.e = 1 ∧ i = s.N ∧ y = eo) ∨ (∃ yi : Int, y = yi ∧ ((∃ j, j < n ∧ yi = uO n off sg j) ∨ y = OuQ s eo i))) : ∃ d ru K : Int, pcH (gapQ n off lev sg s i x) (gapQ n off lev sg s i y) (y - x) d ru K := by
  have hxq : (s.ou (i - 1) : Rat) ≤ x := Rat.intCast_le_intCast.mpr hx
  have hw : (s.ou (i - 1) : Rat) < OuQ s eo i := by grind
  obtain ⟨top, hr, hri⟩ := H.top h0 hi hw
  obtain ⟨d, dv, c, hd, hdv, line⟩ := Lo_line (lev := lev) (x := x) ok hs
  have dq : (d : Rat) ≠ 0 := by have := q_pos hd.1; grind
  have rq : (s.ru i : Rat) ≠ 0 := by have := q_pos hr.1; grind
  have Lx : Lo n off lev sg x = ((c : Rat) + dv * ((x : Rat) - x)) / d := by
    refine line x Rat.le_refl (fun q => ?_)
    have := hk q
    grind
  have Ly : Lo n off lev sg y = ((c : Rat) + dv * (y - x)) / d := line y (by grind) hk
  have m1 := mulB (a := s.ri i) (b := d) (A := 99999) (B := 200000) (by omega) (by omega)
  have m2 := mulB (a := dv) (b := s.ru i) (A := 200000) (B := 99999) (by omega) (by omega)
  have L1 := Lo_in (x := x) ok hs (lev := lev)
  have L2 := Lo_in (x := y) ok hs (lev := lev)
  have S1 := H.sec_bd ok hs h0 hi hxq (by grind) hw
  have S2 := H.sec_bd ok hs h0 hi (t := y) (by grind) hyO hw
  refine ⟨d, s.ru i, s.ri i * d - dv * s.ru i, hd, hr, by omega, ⟨by grind, ?_⟩, ?_, ?_, ?_, ?_, ?_⟩
  · -- the width
    have x0 : (0 : Rat) ≤ x := by
      have o := (H.ok.2.2.1 (i - 1) (by omega)).1
      exact Rat.intCast_le_intCast.mpr (show (0 : Int) ≤ x by omega)
    have yb : y ≤ 50000000000000 := by
      refine Rat.le_trans hyO ?_
      unfold OuQ
      split
      · rename_i q
        exact (H.fin q.1).2.2.2.1.2
      · have o := (H.ok.2.2.1 i hi).2
        have b := H.ok.1
        exact Rat.le_trans (Rat.intCast_le_intCast.mpr (show s.ou i ≤ 2000000 by omega)) (by decide)
    grind
  · have g := gap_dif (c := c) (dv := dv) (t := y) (x := x) (d := d) (h := s.hi (i - 1)) (k := s.ri i) (r := s.ru i) (o := s.ou (i - 1)) dq rq
    unfold gapQ secQ
    rw [Lx, Ly, g]
    have e : ((s.ri i * d - dv * s.ru i : Int) : Rat) = (s.ri i : Rat) * d - dv * s.ru i := by grind
    rw [e]
  · rcases bx with e | ⟨j, hj, e⟩
    · refine nice_d (Z := 1000 * c - s.hi (i - 1) * d) hd ?_
      unfold gapQ secQ
      rw [Lx, e]
      have f := nice_form (c := c) (dv := dv) (t := x) (x := x) (h := s.hi (i - 1)) (d := d) (Z := ((1000 * c - s.hi (i - 1) * d : Int) : Rat)) dq (by grind)
      rw [← f, ← e]
      grind
    · have La : Lo n off lev sg x = vO n lev sg j := by rw [e]; exact Lo_at ok hs hj
      refine nice_r (Z := 1000 * vO n lev sg j * s.ru i - s.hi (i - 1) * s.ru i - 1000 * s.ri i * (x - s.ou (i - 1))) hr ?_
      unfold gapQ secQ
      rw [La]
      exact nice_form2 rq (by grind)
  · rcases hy with ⟨y1, y2, y3⟩ | ⟨yi, ey, hj⟩
    · refine Or.inl ?_
      have f := H.fin y1
      have t := top
      unfold OuQ LvQ at t
      rw [if_pos ⟨y1, y2⟩, if_pos ⟨y1, y2⟩] at t
      unfold gapQ
      rw [y3, f.2.2.2.2.1, t]
      grind
    · refine Or.inr ⟨?_, yi - x, by rw [ey]; grind⟩
      rcases hj with ⟨j, hj, e⟩ | e
      · have La : Lo n off lev sg y = vO n lev sg j := by rw [ey, e]; exact Lo_at ok hs hj
        refine nice_r (Z := 1000 * vO n lev sg j * s.ru i - s.hi (i - 1) * s.ru i - 1000 * s.ri i * (yi - s.ou (i - 1))) hr ?_
        unfold gapQ secQ
        rw [La, ey]
        exact nice_form2 rq (by grind)
      · by_cases q : s.e = 1 ∧ i = s.N
        · -- a whole end: its gap is 0
          have f := H.fin q.1
          have t := top
          unfold OuQ at e
          rw [if_pos q] at e
          unfold OuQ LvQ at t
          rw [if_pos q, if_pos q] at t
          refine nice_d (Z := 0) hd ?_
          unfold gapQ
          rw [e, f.2.2.2.2.1, t]
          grind
        · have t := top
          unfold LvQ at t
          rw [if_neg q, ← e] at t
          refine nice_d (Z := 1000 * (c + dv * (yi - x)) - s.hi i * d) hd ?_
          unfold gapQ
          rw [t, Ly, ey]
          exact nice_form dq (by grind)
  · unfold gapQ
    grind
  · unfold gapQ
    grind
end SDP
/-! SUMS OF SHARES -/
def cuB (c : Nat) (q : Rat) : Prop := 0 ≤ q ∧ q ≤ (c : Int) * 100000000000000000000000 ∧ q.den ≤ 10 ^ (23 * c)
theorem den_add (a b : Rat) : (a + b).den ≤ a.den * b.den := by
  obtain ⟨-, e2, -, -, -, -⟩ := rat_add_parts a b (g := Nat.gcd a.den b.den) (T := a.num * ((b.den / Nat.gcd a.den b.den : Nat) : Int) + b.num * ((a.den / Nat.gcd a.den b.den : Nat) : Int)) rfl rfl rfl
  rw [e2]
  exact Nat.mul_le_mul (Nat.div_le_self _ _) (Nat.div_le_self _ _)
theorem cuB0 : cuB 0 0 := ⟨by decide, by have : (((0 : Nat) : Int) : Rat) = 0 := rfl; rw [this]; grind, by decide⟩
theorem cuB.add {c : Nat} {q s : Rat} (h : cuB c q) (k : shB s) : cuB (c + 1) (q + s) := by
  obtain ⟨a1, a2, a3⟩ := h
  obtain ⟨b1, b2, b3⟩ := k
  refine ⟨by grind, ?_, ?_⟩
  · have e : (((c + 1 : Nat) : Int) : Rat) = ((c : Int) : Rat) + 1 := by
      rw [show ((c + 1 : Nat) : Int) = (c : Int) + 1 by omega]
      grind
    rw [e]
    grind
  · refine Nat.le_trans (den_add q s) ?_
    have b4 : s.den ≤ 10 ^ 23 := by omega
    have e : (10 : Nat) ^ (23 * (c + 1)) = 10 ^ (23 * c) * 10 ^ 23 := by rw [show 23 * (c + 1) = 23 * c + 23 by omega, Nat.pow_add]
    rw [e]
    exact Nat.mul_le_mul a3 b4
theorem cuB.zero {c : Nat} {q : Rat} (h : cuB c q) : cuB (c + 1) q := by
  have := h.add shB0
  rwa [show q + 0 = q by grind] at this
theorem num_le {q : Rat} {M : Int} (h0 : 0 ≤ q) (h : q ≤ M) : (q.num.natAbs : Int) ≤ M * q.den := by
  have hd := q.den_pos
  have dq : (0 : Rat) < (q.den : Int) := q_pos (by omega)
  have e : (q.num : Rat) = q * (q.den : Int) := by
    have := Rat.num_divInt_den q
    rw [divQ] at this
    generalize hz : ((q.den : Int) : Rat) = z at *
    have : (q.num : Rat) / z * z = q * z := by rw [this]
    grind
  have n0 : 0 ≤ q.num := Rat.num_nonneg.mpr h0
  have l : (q.num : Rat) ≤ ((M * q.den : Int) : Rat) := by
    rw [e]
    have e2 : ((M * q.den : Int) : Rat) = (M : Rat) * (q.den : Int) := by grind
    rw [e2]
    have := q_mul_nn (a := M - q) (b := ((q.den : Int) : Rat)) (by grind) (Rat.le_of_lt dq)
    grind
  have := Rat.intCast_le_intCast.mp l
  omega
theorem ten_bp (k : Nat) : (10 : Int) ^ (9 * k) = 1000000000 ^ k := by
  rw [Int.pow_mul]
  rfl
theorem shB.sz {s : Rat} (h : shB s) : qB 6 s := by
  have n := num_le (M := 100000000000000000000000) h.1 h.2.1
  have d := h.2.2
  unfold qB
  rw [show (1000000000 : Int) ^ 6 = 1000000000000000000000000000000000000000000000000000000 by decide]
  omega
theorem cuB.sz {c : Nat} {q : Rat} (h : cuB c q) (hc : c ≤ 36) : qB 97 q := by
  have n := num_le (M := (c : Int) * 100000000000000000000000) h.1 (by
    have e : (((c : Int) * 100000000000000000000000 : Int) : Rat) = ((c : Int) : Rat) * 100000000000000000000000 := by grind
    rw [e]
    exact h.2.1)
  have d1 : q.den ≤ 10 ^ 828 := Nat.le_trans h.2.2 (Nat.pow_le_pow_right (by decide) (by omega))
  have d : (q.den : Int) ≤ 10 ^ 828 := by
    have : ((10 ^ 828 : Nat) : Int) = (10 : Int) ^ 828 := by rw [Int.natCast_pow]; rfl
    omega
  have p0 : (0 : Int) < 10 ^ 828 := Int.pow_pos (by decide)
  have e : (1000000000 : Int) ^ 97 = 10 ^ 828 * 1000000000000000000000000000000000000000000000 := by
    rw [← ten_bp 97, show 9 * 97 = 828 + 45 by decide, Int.pow_add]
    rfl
  have hd := q.den_pos
  have m : (c : Int) * 100000000000000000000000 * q.den ≤ 3600000000000000000000000 * 10 ^ 828 := by
    have x1 : (c : Int) * 100000000000000000000000 * q.den ≤ 3600000000000000000000000 * q.den := Int.mul_le_mul_of_nonneg_right (by omega) (by omega)
    have x2 : (3600000000000000000000000 : Int) * q.den ≤ 3600000000000000000000000 * 10 ^ 828 := Int.mul_le_mul_of_nonneg_left d (by decide)
    omega
  unfold qB
  rw [e]
  generalize (10 : Int) ^ 828 = T at *
  omega
/-- how many pieces at most -/
theorem coF_cnt {u : Nat → Int} {b : Rat} : ∀ (m j : Nat) (cur : Rat), coF u (fun _ _ => 1) b m j cur ≤ ((m + 1 : Nat) : Int) ∧ 1 ≤ coF u (fun _ _ => 1) b m j cur
  | 0, j, cur => ⟨by show (1 : Rat) ≤ ((0 + 1 : Nat) : Int); decide, Rat.le_refl⟩
  | m + 1, j, cur => by
    have e : (((m + 1 + 1 : Nat) : Int) : Rat) = (((m + 1 : Nat) : Int) : Rat) + 1 := by
      rw [show ((m + 1 + 1 : Nat) : Int) = ((m + 1 : Nat) : Int) + 1 by omega]
      grind
    rw [coF]
    split
    · have := coF_cnt (u := u) (b := b) m (j + 1) (u j)
      rw [e]
      grind
    · have := coF_cnt (u := u) (b := b) m (j + 1) cur
      rw [e]
      grind
/-- points behind b may be left out -/
theorem coF_cut {u : Nat → Int} {F : Rat → Rat → Rat} {b : Rat} : ∀ (r j m : Nat) (cur : Rat), (∀ i, j + r ≤ i → i < j + r + m → b ≤ (u i : Rat)) → coF u F b (r + m) j cur = coF u F b r j cur
  | 0, j, m, cur, h => by
    rw [Nat.zero_add, coF]
    exact coF_far m j (fun i a c => h i (by omega) (by omega))
  | r + 1, j, m, cur, h => by
    rw [show r + 1 + m = (r + m) + 1 by omega, coF, coF, coF_cut r (j + 1) m (u j) (fun i a c => h i (by omega) (by omega)), coF_cut r (j + 1) m cur (fun i a c => h i (by omega) (by omega))]
section SMS
variable {n : Nat} {off lev : Nat → Int} {sg : Int} {s : Sq} {eo el : Rat} {F : Nat → Rat → Rat → Rat}
/-- the way to corner i from x on -/
def arI (n : Nat) (off : Nat → Int) (sg : Int) (s : Sq) (eo : Rat) (F : Nat → Rat → Rat → Rat) (i : Nat) (x : Rat) : Rat := if x < OuQ s eo i then coF (uO n off sg) (F i) (OuQ s eo i) n 0 x else 0
/-- m ways from the one to corner i on -/
def arT (n : Nat) (off : Nat → Int) (sg : Int) (s : Sq) (eo : Rat) (F : Nat → Rat → Rat → Rat) : Nat → Nat → Rat
  | 0, _ => 0
  | m + 1, i => arI n off sg s eo F i (s.ou (i - 1)) + arT n off sg s eo F m (i + 1)
/-- what is left on a side, from x on the way to corner i -/
def reS (n : Nat) (off : Nat → Int) (sg : Int) (s : Sq) (eo : Rat) (F : Nat → Rat → Rat → Rat) (i : Nat) (x : Rat) : Rat := if i ≤ s.N then arI n off sg s eo F i x + arT n off sg s eo F (s.N - i) (i + 1) else 0
theorem reS_start (o0 : s.ou 0 = 0) : reS n off sg s eo F 1 0 = arT n off sg s eo F s.N 1 := by
  unfold reS
  split
  · rename_i h
    rw [show s.N = (s.N - 1) + 1 by omega, arT, Nat.sub_self, o0]
    rfl
  · rw [show s.N = 0 by omega, arT]
theorem reS_end {i : Nat} {x : Rat} (h : s.N < i) : reS n off sg s eo F i x = 0 := by unfold reS; rw [if_neg (by omega)]
theorem reS_skip {i : Nat} {x : Rat} (h0 : 0 < i) (hi : i ≤ s.N) (h : ¬ x < OuQ s eo i) (hx : i < s.N → x = s.ou i) : reS n off sg s eo F i x = reS n off sg s eo F (i + 1) x := by
  have z : arI n off sg s eo F i x = 0 := by unfold arI; rw [if_neg h]
  by_cases c : i < s.N
  · unfold reS
    rw [if_pos hi, if_pos (by omega), z, show s.N - i = (s.N - (i + 1)) + 1 by omega, arT, Nat.add_sub_cancel, ← hx c]
    grind
  · rw [reS_end (i := i + 1) (by omega)]
    unfold reS
    rw [if_pos hi, z, show s.N - i = 0 by omega, arT]
    grind
theorem reS_point {i : Nat} {x : Int} (ok : okG n off lev) (hs : sg = 1 ∨ sg = -1) (hi : i ≤ s.N) (h : (x : Rat) < OuQ s eo i) (k : kO n off sg x < n) (hk : (uO n off sg (kO n off sg x) : Rat) < OuQ s eo i) : reS n off sg s eo F i x = F i x (uO n off sg (kO n off sg x)) + reS n off sg s eo F i (uO n off sg (kO n off sg x)) := by
  have st := coF_step (u := uO n off sg) (F := F i) (n := n) (fun i j a b => uO_mono ok hs a b) x (OuQ s eo i)
  have ek : gk n (uO n off sg) x = kO n off sg x := rfl
  rw [ek, if_pos ⟨k, hk⟩] at st
  unfold reS arI
  rw [if_pos hi, if_pos hi, if_pos h, if_pos hk, st]
  grind
theorem reS_corner {i : Nat} {x : Int} {x' : Rat} (ok : okG n off lev) (hs : sg = 1 ∨ sg = -1) (hi : i ≤ s.N) (h : (x : Rat) < OuQ s eo i) (hk : ¬ (kO n off sg x < n ∧ (uO n off sg (kO n off sg x) : Rat) < OuQ s eo i)) (hx' : ¬ x' < OuQ s eo i) : reS n off sg s eo F i x = F i x (OuQ s eo i) + reS n off sg s eo F i x' := by
  have st := coF_step (u := uO n off sg) (F := F i) (n := n) (fun i j a b => uO_mono ok hs a b) x (OuQ s eo i)
  have ek : gk n (uO n off sg) x = kO n off sg x := rfl
  rw [ek, if_neg hk] at st
  unfold reS arI
  rw [if_pos hi, if_pos hi, if_pos h, if_neg hx', st]
  grind
/-- ones: how many pieces -/
def one3 : Nat → Rat → Rat → Rat := fun _ _ _ => 1
theorem arI_cnt {i : Nat} (ok : okG n off lev) (hs : sg = 1 ∨ sg = -1) (x : Int) : arI n off sg s eo one3 i x ≤ ((1 + (n - kO n off sg x) : Nat) : Int) ∧ 0 ≤ arI n off sg s eo one3 i x ∧ (∀ y : Int, OuQ s eo i = y → x ≤ y → arI n off sg s eo one3 i x ≤ ((1 + (kO n off sg y - kO n off sg x) : Nat) : Int)) := by
  have z0 : ∀ k : Nat, (0 : Rat) ≤ ((k : Nat) : Int) := fun k => Rat.intCast_le_intCast.mpr (by omega : (0 : Int) ≤ (k : Int))
  unfold arI
  split
  · rename_i h
    have s1 := gk_spec n (uO n off sg) x
    have ek : kO n off sg x = gk n (uO n off sg) x := rfl
    rw [ek]
    have e := coF_skip (u := uO n off sg) (F := one3 i) (cur := x) (b := OuQ s eo i) (gk n (uO n off sg) x) 0 (n - gk n (uO n off sg) x) (fun j _ c => Rat.intCast_le_intCast.mpr (s1.2.1 j (by omega)))
    rw [show gk n (uO n off sg) x + (n - gk n (uO n off sg) x) = n by omega, Nat.zero_add] at e
    rw [e]
    have c := coF_cnt (u := uO n off sg) (b := OuQ s eo i) (n - gk n (uO n off sg) x) (gk n (uO n off sg) x) x
    refine ⟨?_, ?_, fun y hy hxy => ?_⟩
    · rw [Nat.add_comm 1]; exact c.1
    · exact Rat.le_trans (by decide) c.2
    · have ek2 : kO n off sg y = gk n (uO n off sg) y := rfl
      rw [ek2]
      have s2 := gk_spec n (uO n off sg) y
      have le : gk n (uO n off sg) x ≤ gk n (uO n off sg) y := by
        refine Decidable.byContradiction fun q => ?_
        have a := s2.2.2 (by omega)
        have b := s1.2.1 (gk n (uO n off sg) y) (by omega)
        omega
      have e2 := coF_cut (u := uO n off sg) (F := one3 i) (b := OuQ s eo i) (gk n (uO n off sg) y - gk n (uO n off sg) x) (gk n (uO n off sg) x) (n - gk n (uO n off sg) y) x (fun j a b => by
        rw [hy]
        refine Rat.intCast_le_intCast.mpr ?_
        have a0 := s2.2.2 (by omega)
        by_cases q : j = gk n (uO n off sg) y
        · rw [q]; omega
        · have := uO_mono ok hs (i := gk n (uO n off sg) y) (j := j) (by omega) (by omega)
          omega)
      rw [show gk n (uO n off sg) y - gk n (uO n off sg) x + (n - gk n (uO n off sg) y) = n - gk n (uO n off sg) x by omega] at e2
      rw [e2]
      have c2 := coF_cnt (u := uO n off sg) (b := OuQ s eo i) (gk n (uO n off sg) y - gk n (uO n off sg) x) (gk n (uO n off sg) x) x
      rw [Nat.add_comm 1]; exact c2.1
  · exact ⟨z0 _, Rat.le_refl, fun y _ _ => z0 _⟩
theorem arT_cnt (H : sdH n off lev sg s eo el) (ok : okG n off lev) (hs : sg = 1 ∨ sg = -1) : ∀ (m i : Nat), 0 < i → i + m = s.N + 1 → arT n off sg s eo one3 m i ≤ ((m + (n - kO n off sg (s.ou (i - 1))) : Nat) : Int) ∧ 0 ≤ arT n off sg s eo one3 m i
  | 0, i, h0, hm => ⟨Rat.intCast_le_intCast.mpr (by omega : (0 : Int) ≤ _), Rat.le_refl⟩
  | m + 1, i, h0, hm => by
    have a := arI_cnt (s := s) (eo := eo) (i := i) ok hs (s.ou (i - 1))
    have ih := arT_cnt H ok hs m (i + 1) (by omega) (by omega)
    rw [Nat.add_sub_cancel] at ih
    rw [arT]
    refine ⟨?_, by grind⟩
    by_cases c : m = 0
    · subst c
      have e : arT n off sg s eo one3 0 (i + 1) = 0 := rfl
      rw [e]
      have x := a.1
      rw [show 0 + 1 + (n - kO n off sg (s.ou (i - 1))) = 1 + (n - kO n off sg (s.ou (i - 1))) by omega]
      grind
    · have ne : ¬ (s.e = 1 ∧ i = s.N) := by omega
      have ou : OuQ s eo i = s.ou i := by unfold OuQ; rw [if_neg ne]
      have mo := H.mono (i - 1) (by omega)
      rw [show i - 1 + 1 = i by omega] at mo
      have x := a.2.2 (s.ou i) ou mo
      have s1 := gk_spec n (uO n off sg) (s.ou (i - 1))
      have s2 := gk_spec n (uO n off sg) (s.ou i)
      have le : kO n off sg (s.ou (i - 1)) ≤ kO n off sg (s.ou i) := by
        unfold kO
        refine Decidable.byContradiction fun q => ?_
        have a := s2.2.2 (by omega)
        have b := s1.2.1 (gk n (uO n off sg) (s.ou i)) (by omega)
        omega
      have kn : kO n off sg (s.ou i) ≤ n := s2.1
      have e : (((m + 1 + (n - kO n off sg (s.ou (i - 1))) : Nat) : Int) : Rat) = (((1 + (kO n off sg (s.ou i) - kO n off sg (s.ou (i - 1))) : Nat) : Int) : Rat) + (((m + (n - kO n off sg (s.ou i)) : Nat) : Int) : Rat) := by
        rw [← Rat.intCast_add]
        congr 1
        omega
      rw [e]
      have y := ih.1
      grind
/-- both sides have at most 36 pieces -/
theorem kO_both (ok : okG n off lev) : n ≤ kO n off (-1) 0 + kO n off 1 0 := by
  have s1 := gk_spec n (uO n off (-1)) 0
  have s2 := gk_spec n (uO n off 1) 0
  unfold kO
  refine Decidable.byContradiction fun q => ?_
  have a := s1.2.2 (by omega)
  have b := s2.2.2 (by omega)
  generalize gk n (uO n off (-1)) 0 = k at *
  generalize gk n (uO n off 1) 0 = l at *
  have e1 : uO n off (-1) k = -off (n - 1 - k) := by unfold uO ixO; simp
  have e2 : uO n off 1 l = off l := by unfold uO ixO; simp
  have : off l ≤ off (n - 1 - k) := off_le ok (by omega) (by omega)
  omega
end SMS
