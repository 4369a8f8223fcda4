/-! AREAS, PURELY: a way from a to b cut at the points u of the ground that lie inside -/
def coF (u : Nat → Int) (F : Rat → Rat → Rat) (b : Rat) : Nat → Nat → Rat → Rat
  | 0, _, cur => F cur b
  | m + 1, j, cur => if cur < u j ∧ (u j : Rat) < b then F cur (u j) + coF u F b m (j + 1) (u j) else coF u F b m (j + 1) cur
/-- the same from b inward, of the first m points -/
def ciF (u : Nat → Int) (F : Rat → Rat → Rat) (a : Rat) : Nat → Rat → Rat
  | 0, cur => F a cur
  | m + 1, cur => if a < u m ∧ (u m : Rat) < cur then F (u m) cur + ciF u F a m (u m) else ciF u F a m cur
theorem coF_last {u : Nat → Int} {F : Rat → Rat → Rat} {n : Nat} (mono : ∀ i j, i < j → j < n → u i < u j) : ∀ (r j : Nat) (cur b : Rat), j + r < n → coF u F b (r + 1) j cur = if cur < u (j + r) ∧ (u (j + r) : Rat) < b then coF u F (u (j + r)) r j cur + F (u (j + r)) b else coF u F b r j cur
  | 0, j, cur, b, _ => rfl
  | r + 1, j, cur, b, h => by
    have lt : (u j : Rat) < u (j + (r + 1)) := Rat.intCast_lt_intCast.mpr (mono j (j + (r + 1)) (by omega) h)
    have i1 := coF_last (F := F) mono r (j + 1) (u j) b (by omega)
    have i2 := coF_last (F := F) mono r (j + 1) cur b (by omega)
    rw [show j + 1 + r = j + (r + 1) by omega] at i1 i2
    rw [coF, i1, i2, coF, coF]
    generalize (u (j + (r + 1)) : Rat) = z at *
    generalize (u j : Rat) = y at *
    by_cases c1 : cur < y ∧ y < b
    · rw [if_pos c1]
      by_cases c2 : z < b
      · have c3 : cur < z := by grind
        rw [if_pos ⟨lt, c2⟩, if_pos ⟨c3, c2⟩, if_pos ⟨c1.1, lt⟩]
        grind
      · rw [if_neg (by grind), if_neg (by grind), if_pos c1]
    · rw [if_neg c1]
      by_cases c2 : cur < z ∧ z < b
      · rw [if_pos c2, if_pos c2, if_neg (by grind)]
      · rw [if_neg c2, if_neg c2, if_neg c1]
theorem coF_ciF {u : Nat → Int} {F : Rat → Rat → Rat} {n : Nat} (mono : ∀ i j, i < j → j < n → u i < u j) (a : Rat) : ∀ (m : Nat) (b : Rat), m ≤ n → coF u F b m 0 a = ciF u F a m b
  | 0, b, _ => rfl
  | m + 1, b, h => by
    rw [coF_last mono m 0 a b (by omega), ciF, Nat.zero_add, coF_ciF mono a m (u m) (by omega), coF_ciF mono a m b (by omega)]
    split
    · rw [Rat.add_comm]
    · rfl
/-- points that are not beyond cur cut nothing -/
theorem coF_skip {u : Nat → Int} {F : Rat → Rat → Rat} {cur b : Rat} : ∀ (r j m : Nat), (∀ i, j ≤ i → i < j + r → (u i : Rat) ≤ cur) → coF u F b (r + m) j cur = coF u F b m (j + r) cur
  | 0, j, m, _ => by rw [Nat.zero_add, Nat.add_zero]
  | r + 1, j, m, h => by
    have := h j (by omega) (by omega)
    rw [show r + 1 + m = (r + m) + 1 by omega, coF, if_neg (by grind), coF_skip r (j + 1) m (fun i a c => h i (by omega) (by omega)), show j + 1 + r = j + (r + 1) by omega]
/-- nor do those behind b -/
theorem coF_far {u : Nat → Int} {F : Rat → Rat → Rat} {cur b : Rat} : ∀ (m j : Nat), (∀ i, j ≤ i → i < j + m → b ≤ (u i : Rat)) → coF u F b m j cur = F cur b
  | 0, j, _ => rfl
  | m + 1, j, h => by
    have := h j (by omega) (by omega)
    rw [coF, if_neg (by grind), coF_far m (j + 1) (fun i a c => h i (by omega) (by omega))]
/-- one step: to the next point, or to the end -/
theorem coF_step {u : Nat → Int} {F : Rat → Rat → Rat} {n : Nat} (mono : ∀ i j, i < j → j < n → u i < u j) (pl : Int) (b : Rat) : coF u F b n 0 pl = if gk n u pl < n ∧ (u (gk n u pl) : Rat) < b then F pl (u (gk n u pl)) + coF u F b n 0 (u (gk n u pl)) else F pl b := by
  have s := gk_spec n u pl
  generalize gk n u pl = k at *
  have e := coF_skip (u := u) (F := F) (cur := pl) (b := b) k 0 (n - k) (fun i _ c => Rat.intCast_le_intCast.mpr (s.2.1 i (by omega)))
  rw [show k + (n - k) = n by omega, Nat.zero_add] at e
  rw [e]
  by_cases c : k < n
  · have lt : (pl : Rat) < u k := Rat.intCast_lt_intCast.mpr (s.2.2 c)
    by_cases c2 : (u k : Rat) < b
    · rw [if_pos ⟨c, c2⟩, show n - k = (n - (k + 1)) + 1 by omega, coF, if_pos ⟨lt, c2⟩]
      have e2 := coF_skip (u := u) (F := F) (cur := u k) (b := b) (k + 1) 0 (n - (k + 1)) (fun i _ h => Rat.intCast_le_intCast.mpr (by
        by_cases q : i = k
        · subst q; omega
        · have := mono i k (by omega) c; omega))
      rw [show k + 1 + (n - (k + 1)) = n by omega, Nat.zero_add] at e2
      rw [e2]
    · rw [if_neg (fun q => c2 q.2)]
      exact coF_far (n - k) k (fun i h1 h2 => by
        have : (u k : Rat) ≤ u i := Rat.intCast_le_intCast.mpr (by
          by_cases q : i = k
          · subst q; omega
          · have := mono k i (by omega) (by omega); omega)
        grind)
  · rw [if_neg (fun q => c q.1), show n - k = 0 by omega, coF]
/-- what a piece adds to cut and to fill: its gaps a, b, its width w -/
abbrev opp (a b : Rat) : Prop := (0 < a ∧ b < 0) ∨ (a < 0 ∧ 0 < b)
def pcC (a b w : Rat) : Rat := if opp a b then (if 0 < a then a * a * (w / 2) / (a - b) else b * b * (w / 2) / (b - a)) else if 0 < a + b then (a + b) * (w / 2) else 0
def pcF (a b w : Rat) : Rat := if opp a b then (if 0 < a then b * b * (w / 2) / (a - b) else a * a * (w / 2) / (b - a)) else if 0 < a + b then 0 else -(a + b) * (w / 2)
theorem opp_sym {a b : Rat} : opp a b ↔ opp b a := by unfold opp; grind
theorem pcC_sym (a b w : Rat) : pcC a b w = pcC b a w := by
  unfold pcC
  by_cases c : opp a b
  · rw [if_pos c, if_pos (opp_sym.mp c)]
    unfold opp at c
    by_cases h : 0 < a
    · rw [if_pos h, if_neg (by grind)]
    · rw [if_neg h, if_pos (by grind)]
  · rw [if_neg c, if_neg (fun q => c (opp_sym.mp q)), Rat.add_comm]
theorem pcF_sym (a b w : Rat) : pcF a b w = pcF b a w := by
  unfold pcF
  by_cases c : opp a b
  · rw [if_pos c, if_pos (opp_sym.mp c)]
    unfold opp at c
    by_cases h : 0 < a
    · rw [if_pos h, if_neg (by grind)]
    · rw [if_neg h, if_pos (by grind)]
  · rw [if_neg c, if_neg (fun q => c (opp_sym.mp q)), Rat.add_comm]
