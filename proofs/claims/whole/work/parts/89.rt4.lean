/-! BOTH AREAS ARE ONE, PURELY -/
section RTE
variable {n : Nat} {off lev : Nat → Int} {sg : Int} {s : Sq} {eo el : Rat} {U Y : Nat → Rat}
theorem uO_1 : uO n off 1 = off := by
  funext j
  unfold uO ixO
  rw [if_pos rfl, Int.one_mul]
theorem uO_m (j : Nat) : uO n off (-1) j = -off (n - 1 - j) := by
  unfold uO ixO
  rw [if_neg (by decide), Int.neg_mul, Int.one_mul]
theorem ln_alg {a b u v r x : Rat} (h : a < b) (e : v = u + r * (b - a)) : lnQ a b u v x = u + r * (x - a) := by
  unfold lnQ
  have : b - a ≠ 0 := by grind
  have e2 : (v - u) / (b - a) = r := by rw [e]; grind
  rw [e2]
theorem ln_alg2 {a b h r x v : Rat} (hl : a < b) (e : v = h + r * (b - a)) : lnQ (-b) (-a) v h x = h + r * (-x - a) := by
  unfold lnQ
  have : -a - -b ≠ 0 := by grind
  have e2 : (h - v) / (-a - -b) = -r := by rw [e]; grind
  rw [e2, e]
  grind
theorem sdH.rgt (H : sdH n off lev sg s eo el) {i : Nat} (h0 : 0 < i) (hi : i ≤ s.N) (lt : (s.ou (i - 1) : Rat) < OuQ s eo i) (x : Rat) : lnQ (s.ou (i - 1)) (OuQ s eo i) ((s.hi (i - 1) : Rat) / 1000) (LvQ s el i) x = secQ s i x := by
  have t := (H.top h0 hi lt).1
  unfold secQ at t ⊢
  exact ln_alg lt t.symm
theorem sdH.lft (H : sdH n off lev sg s eo el) {i : Nat} (h0 : 0 < i) (hi : i ≤ s.N) (lt : (s.ou (i - 1) : Rat) < OuQ s eo i) (x : Rat) : lnQ (-(OuQ s eo i)) (-(s.ou (i - 1) : Rat)) (LvQ s el i) ((s.hi (i - 1) : Rat) / 1000) x = secQ s i (-x) := by
  have t := (H.top h0 hi lt).1
  unfold secQ at t ⊢
  exact ln_alg2 lt t.symm
theorem ou_in {i : Nat} (h : ¬ (s.e = 1 ∧ i = s.N)) : OuQ s eo i = (s.ou i : Rat) := if_neg h
theorem sd_pieceR (H : sdH n off lev 1 s eo el) (ok : okG n off lev) {i : Nat} (h0 : 0 < i) (hi : i ≤ s.N) {x y : Rat} (bx : bkU n off (s.ou (i - 1)) x) (b1 : bkU n off (OuQ s eo i) y) (x1 : (s.ou (i - 1) : Rat) ≤ x) (xy : x < y) (y1 : y ≤ OuQ s eo i) (np : ∀ j, j < n → ¬ (x < (off j : Rat) ∧ (off j : Rat) < y)) : ∃ d ru K : Int, pcH (gapQ n off lev 1 s i x) (gapQ n off lev 1 s i y) (y - x) d ru K := by
  obtain ⟨xi, ex, brx⟩ : ∃ xi : Int, x = xi ∧ brk n off 1 s i xi := by
    rcases bx with e | ⟨j, hj, e⟩
    · exact ⟨s.ou (i - 1), e, Or.inl rfl⟩
    · exact ⟨off j, e, Or.inr ⟨j, hj, by rw [uO_1]⟩⟩
  subst ex
  refine H.piece ok (Or.inl rfl) h0 hi (Rat.intCast_le_intCast.mp x1) xy y1 brx (fun k => ?_) ?_
  · rw [uO_1]
    have ks := gk_spec n off xi
    have kk : kO n off 1 xi = gk n off xi := by unfold kO; rw [uO_1]
    rw [kk] at k ⊢
    have := np _ k
    have l : (xi : Rat) < off (gk n off xi) := Rat.intCast_lt_intCast.mpr (ks.2.2 k)
    exact Rat.not_lt.mp (fun q => this ⟨l, q⟩)
  · rcases b1 with e | ⟨j, hj, e⟩
    · by_cases c : s.e = 1 ∧ i = s.N
      · refine Or.inl ⟨c.1, c.2, ?_⟩
        rw [e]
        exact if_pos c
      · exact Or.inr ⟨s.ou i, by rw [e, ou_in c], Or.inr e⟩
    · exact Or.inr ⟨off j, e, Or.inl ⟨j, hj, by rw [uO_1]⟩⟩
theorem sd_pieceL (H : sdH n off lev (-1) s eo el) (ok : okG n off lev) {i : Nat} (h0 : 0 < i) (hi : i ≤ s.N) {x y : Rat} (bx : bkU n off (-(OuQ s eo i)) x) (b1 : bkU n off (-(s.ou (i - 1) : Rat)) y) (x1 : -(OuQ s eo i) ≤ x) (xy : x < y) (y1 : y ≤ -(s.ou (i - 1) : Rat)) (np : ∀ j, j < n → ¬ (x < (off j : Rat) ∧ (off j : Rat) < y)) : ∃ d ru K : Int, pcH (gapQ n off lev (-1) s i (-y)) (gapQ n off lev (-1) s i (-x)) (y - x) d ru K := by
  obtain ⟨t, et, brt⟩ : ∃ t : Int, y = -(t : Rat) ∧ brk n off (-1) s i t := by
    rcases b1 with e | ⟨j, hj, e⟩
    · exact ⟨s.ou (i - 1), e, Or.inl rfl⟩
    · refine ⟨-off j, ?_, Or.inr ⟨n - 1 - j, by omega, ?_⟩⟩
      · rw [e, Rat.intCast_neg]; grind
      · rw [uO_m, show n - 1 - (n - 1 - j) = j by omega]
  have e1 : -y = (t : Rat) := by grind
  have e2 : y - x = -x - (t : Rat) := by grind
  rw [e1, e2]
  refine H.piece ok (Or.inr rfl) h0 hi (Rat.intCast_le_intCast.mp (by grind)) (by grind) (by grind) brt (fun k => ?_) ?_
  · have ks := (gk_spec n (uO n off (-1)) t).2.2 k
    have ks : t < uO n off (-1) (kO n off (-1) t) := ks
    rw [uO_m] at ks ⊢
    have := np (n - 1 - kO n off (-1) t) (by omega)
    have l : (t : Rat) < ((-off (n - 1 - kO n off (-1) t) : Int) : Rat) := Rat.intCast_lt_intCast.mpr ks
    rw [Rat.intCast_neg] at l ⊢
    have l2 : (off (n - 1 - kO n off (-1) t) : Rat) < y := by grind
    have l3 : ¬ x < (off (n - 1 - kO n off (-1) t) : Rat) := fun q => this ⟨q, l2⟩
    grind
  · rcases bx with e | ⟨j, hj, e⟩
    · have e : -x = OuQ s eo i := by grind
      by_cases c : s.e = 1 ∧ i = s.N
      · refine Or.inl ⟨c.1, c.2, ?_⟩
        rw [e]
        exact if_pos c
      · exact Or.inr ⟨s.ou i, by rw [e, ou_in c], Or.inr e⟩
    · refine Or.inr ⟨-off j, by rw [e, Rat.intCast_neg], Or.inl ⟨n - 1 - j, by omega, ?_⟩⟩
      rw [uO_m, show n - 1 - (n - 1 - j) = j by omega]
theorem pcH.q2 {a b w : Rat} {d ru K : Int} (P : pcH a b w d ru K) : qB 2 a ∧ qB 2 b := by
  refine ⟨nice_q2 P.na P.va, ?_⟩
  rcases P.nb with e | e
  · rw [e]
    refine ⟨?_, ?_⟩
    · decide
    · decide
  · exact nice_q2 e.1 P.vb
/-- the points of the ground from the other end -/
theorem coF_rev {f : Rat → Rat → Rat} {F2 : Rat → Rat → Rat} (hf : ∀ x y, f x y = F2 (-y) (-x)) {a : Rat} : ∀ (m j : Nat) (cur : Rat), j + m = n → coF off f (-a) m j cur = ciF (uO n off (-1)) F2 a m (-cur)
  | 0, j, cur, _ => by
    rw [coF, ciF, hf]
    congr 1
    grind
  | m + 1, j, cur, h => by
    have e : ((uO n off (-1) m : Int) : Rat) = -(off j : Rat) := by
      rw [uO_m, show n - 1 - m = j by omega, Rat.intCast_neg]
    rw [coF, ciF, e]
    by_cases c : cur < (off j : Rat) ∧ (off j : Rat) < -a
    · rw [if_pos c, if_pos (by grind), coF_rev hf m (j + 1) _ (by omega), hf]
    · rw [if_neg c, if_neg (by grind), coF_rev hf m (j + 1) _ (by omega)]
theorem arT_snoc {G : Nat → Rat → Rat → Rat} : ∀ (m i : Nat), arT n off sg s eo G (m + 1) i = arT n off sg s eo G m i + arI n off sg s eo G (i + m) (s.ou (i + m - 1))
  | 0, i => by
    rw [arT, arT, arT, Nat.add_zero]
    grind
  | m + 1, i => by
    rw [arT, arT_snoc m (i + 1), arT, show i + 1 + m = i + (m + 1) by omega]
    grind
theorem arS_rgt {G : Nat → Rat → Rat → Rat} {f : Nat → Rat} {a : Nat} : ∀ m, (∀ t, t < m → f (a + t) = arI n off sg s eo G (1 + t) (s.ou (1 + t - 1))) → arS f (a + m) = arS f a + arT n off sg s eo G m 1
  | 0, _ => by
    rw [arT, Nat.add_zero]
    grind
  | m + 1, h => by
    have e : arS f (a + (m + 1)) = arS f (a + m) + f (a + m) := rfl
    rw [e, arS_rgt m (fun t ht => h t (by omega)), h m (by omega), arT_snoc]
    grind
theorem arS_lft {G : Nat → Rat → Rat → Rat} {f : Nat → Rat} {N : Nat} : ∀ m, m ≤ N → (∀ t, t < m → f t = arI n off sg s eo G (N - t) (s.ou (N - t - 1))) → arS f m = arT n off sg s eo G m (N - m + 1)
  | 0, _, _ => rfl
  | m + 1, hm, h => by
    have e : arS f (m + 1) = arS f m + f m := rfl
    rw [e, arS_lft m (by omega) (fun t ht => h t (by omega)), h m (by omega), show N - (m + 1) + 1 = N - m by omega, arT]
    grind
theorem gQ_lo {x : Rat} : GrQ n off lev x = Lo n off lev 1 x := by
  unfold Lo
  congr 1
  have : ((1 : Int) : Rat) = 1 := rfl
  rw [this]
  grind
theorem gQ_lom {x : Rat} : GrQ n off lev x = Lo n off lev (-1) (-x) := by
  unfold Lo
  congr 1
  have : ((-1 : Int) : Rat) = -1 := rfl
  rw [this]
  grind
theorem sdH.qL (H : sdH n off lev sg s eo el) (ok : okG n off lev) (hs : sg = 1 ∨ sg = -1) {i : Nat} (hi : i ≤ s.N) : qB 14 (LvQ s el i) := by
  have hb : ∀ j, j ≤ s.N → qB 3 ((s.hi j : Rat) / 1000) := by
    intro j hj
    have a := H.ok.2.2.2 j hj
    have b := H.ok.1
    rw [show (s.hi j : Rat) / 1000 = Rat.divInt (s.hi j) 1000 from (divQ _ _).symm]
    exact qB.long (by omega) (by decide)
  unfold LvQ
  split
  · rename_i c
    obtain ⟨f1, f2, f3, f4, f5, f6, f7, f8⟩ := H.fin c.1
    have qe : qB 3 eo := H.q3 c.1
    have on := H.ok.2.2.1 s.N (Nat.le_refl _)
    have nn := H.ok.1
    by_cases l : (s.ou s.N : Rat) < eo
    · rw [f7 l]
      have q1 : qB 3 ((s.ri s.N : Rat) / s.ru s.N) := by
        rw [← divQ]
        exact qB.long (by omega) (by omega)
      have q2 : qB 3 ((s.ou s.N : Int) : Rat) := by
        rw [← div1Q]
        exact qB.long (by omega) (by decide)
      have t := (hb s.N (Nat.le_refl _)).add (q1.mul (qe.sub q2))
      exact t.mono (by decide)
    · have e : eo = (s.ou s.N : Rat) := by grind
      rw [← f5, e]
      unfold Lo
      have e2 : (sg : Rat) * (s.ou s.N : Rat) = ((sg * s.ou s.N : Int) : Rat) := by rw [Rat.intCast_mul]
      have gl := gL_in (o := sg * s.ou s.N) ok
      have gu := gU_in (o := sg * s.ou s.N) ok
      rw [e2, ← GrQ_int ok]
      exact (qB.long (by omega) (by omega)).mono (by decide)
  · exact (hb i hi).mono (by decide)
end RTE
