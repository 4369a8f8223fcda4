/-! THE CLASS'S AREAS SETTLED -/
/-- what a piece adds to cut, to fill; that it is one -/
def pC (gn : Nat) (go gl : Nat → Int) (S : Nat → Sq) (b i : Nat) (x y : Rat) : Rat := pcC (gapQ gn go gl (sgO b) (S b) i x) (gapQ gn go gl (sgO b) (S b) i y) (y - x)
def pF (gn : Nat) (go gl : Nat → Int) (S : Nat → Sq) (b i : Nat) (x y : Rat) : Rat := pcF (gapQ gn go gl (sgO b) (S b) i x) (gapQ gn go gl (sgO b) (S b) i y) (y - x)
def p1 : Nat → Nat → Rat → Rat → Rat := fun _ => one3
def keepA (F F' : Nat → Rat) : Prop := ∀ g, g ≠ 96 → g ≠ 101 → g ≠ 106 → g ≠ 111 → g ≠ 116 → g ≠ 121 → g ≠ 126 → F' g = F g
theorem numP {q : Rat} : 0 < q ↔ 0 < q.num :=
  ⟨fun h => by
    have a := Rat.num_nonneg.mpr (Rat.le_of_lt h)
    have b : q.num ≠ 0 := fun z => by rw [Rat.num_eq_zero.mp z] at h; exact absurd h Rat.lt_irrefl
    omega, fun h => by
    have a : 0 ≤ q := Rat.num_nonneg.mp (by omega)
    refine Rat.lt_of_le_of_ne a (fun z => ?_)
    rw [← z] at h
    exact absurd h (by decide)⟩
theorem sign_pos {q : Rat} : (0 < q ↔ 0 < q.num.sign) ∧ (q < 0 ↔ q.num.sign < 0) := by
  constructor
  · rw [numP]
    exact Int.sign_pos_iff.symm
  · have e : q < 0 ↔ 0 < -q := by grind
    rw [e, numP, Rat.neg_num]
    have := Int.sign_neg_iff (x := q.num)
    omega
theorem q_mul_pos {a b : Rat} (ha : 0 < a) (hb : 0 < b) : 0 < a * b := Rat.mul_pos ha hb
theorem sq_pos {a : Rat} (h : a ≠ 0) : 0 < a * a := by
  by_cases c : 0 < a
  · exact Rat.mul_pos c c
  · have := Rat.mul_pos (show 0 < -a by grind) (show 0 < -a by grind)
    grind
theorem tri_pos {z w s : Rat} (hz : z ≠ 0) (hw : 0 < w) (hs : 0 < s) : 0 < z * z * (w / 2) / s := by
  rw [Rat.div_def]
  exact Rat.mul_pos (Rat.mul_pos (sq_pos hz) (by grind)) (Rat.inv_pos.mpr hs)
theorem tri_cases {a b w : Rat} (o : opp a b) (hw : 0 < w) : (0 < a → (0 < a * a * (w / 2) / (a - b)) ∧ (¬ 0 < b * b * (w / 2) / (b - a)) ∧ pcC a b w = a * a * (w / 2) / (a - b) ∧ pcF a b w = -(b * b * (w / 2) / (b - a))) ∧ (¬ 0 < a → (¬ 0 < a * a * (w / 2) / (a - b)) ∧ (0 < b * b * (w / 2) / (b - a)) ∧ pcC a b w = b * b * (w / 2) / (b - a) ∧ pcF a b w = -(a * a * (w / 2) / (a - b))) := by
  have n1 : ∀ z : Rat, z * z * (w / 2) / (b - a) = -(z * z * (w / 2) / (a - b)) := fun z => by grind
  unfold pcC pcF
  rw [if_pos o, if_pos o]
  unfold opp at o
  refine ⟨fun c => ?_, fun c => ?_⟩
  · have t1 := tri_pos (z := a) (w := w) (s := a - b) (by grind) hw (by grind)
    have t2 := tri_pos (z := b) (w := w) (s := a - b) (by grind) hw (by grind)
    rw [if_pos c, if_pos c, n1 b]
    generalize b * b * (w / 2) / (a - b) = X at *
    exact ⟨t1, by grind, rfl, by grind⟩
  · have t1 := tri_pos (z := a) (w := w) (s := b - a) (by grind) hw (by grind)
    have t2 := tri_pos (z := b) (w := w) (s := b - a) (by grind) hw (by grind)
    rw [if_neg c, if_neg c]
    have n2 : a * a * (w / 2) / (a - b) = -(a * a * (w / 2) / (b - a)) := by grind
    rw [n2]
    generalize a * a * (w / 2) / (b - a) = X at *
    exact ⟨by grind, t2, rfl, by grind⟩
theorem trap_cases {a b w : Rat} (o : ¬ opp a b) (hw : 0 < w) : pcC a b w = (if 0 < (a + b) * (w / 2) then (a + b) * (w / 2) else 0) ∧ pcF a b w = (if 0 < (a + b) * (w / 2) then 0 else -((a + b) * (w / 2))) := by
  unfold pcC pcF
  rw [if_neg o, if_neg o]
  by_cases c : 0 < a + b
  · have := Rat.mul_pos c (show 0 < w / 2 by grind)
    rw [if_pos c, if_pos c, if_pos this, if_pos this]
    exact ⟨rfl, rfl⟩
  · have : ¬ 0 < (a + b) * (w / 2) := by
      have := q_mul_nn (a := -(a + b)) (b := w / 2) (by grind) (by grind)
      grind
    rw [if_neg c, if_neg c, if_neg this, if_neg this]
    exact ⟨rfl, by grind⟩
section STL
variable {X : Nat × (Nat → Int32)} {h0 h h' : am_H} {gn ws as b i : Nat} {go gl tk : Nat → Int} {wk ch st ix pl x : Int} {S : Nat → Sq} {F : Nat → Rat} {W : Nat → Int}
/-- the share told in 121 is added -/
def shQ (F F' : Nat → Rat) : Prop := F' 96 = (if 0 < F 121 then F 96 + F 121 else F 96) ∧ F' 101 = (if 0 < F 121 then F 101 else F 101 + -F 121) ∧ ∀ g, g ≠ 96 → g ≠ 101 → F' g = F g
theorem gw_addShare {d : Nat} (w : GW h0 (h) gn go gl wk ch tk S ws st as ix pl F W) (q1 : qB 97 (F 96)) (q2 : qB 97 (F 101)) (q3 : qB 15 (F 121)) (f1 : 0 < F 121 → qB 99 (F 96 + F 121)) (f2 : ¬ 0 < F 121 → qB 99 (F 101 + -F 121)) : am_c X (d + 5) 132 [.ref 95] h (fun r h' => r = none ∧ ∃ F', GW h0 (h') gn go gl wk ch tk S ws st as ix pl (F') W ∧ shQ F F') := by
  have sp := sign_pos (q := F 121)
  have si : -1 ≤ (F 121).num.sign ∧ (F 121).num.sign ≤ 1 := by
    rcases Int.lt_trichotomy (F 121).num 0 with c | c | c
    · rw [Int.sign_eq_neg_one_of_neg c]; decide
    · rw [c]; decide
    · rw [Int.sign_eq_one_of_pos c]; decide
  have caa := w.aa
  have ca0 := w.arc
  unfold arCell at ca0
  have c106 := (w.ff _ mF106).1
  have c111 := (w.ff _ mF111).1
  have c121 := (w.ff _ mF121).1
  try dsimp only at c106 c111 c121
  refine am_c.of (Nat.le_of_ble_eq_true rfl) ?_
  show am_w _ _ _ (_, [_, _], _, _) _
  by_cases c : 0 < F 121
  · have s1 : (F 121).num.sign = 1 := by have := sp.1.mp c; omega
    try dsimp only at c106 c111 c121
    refine wr_aload_n rfl rfl rfl ?_
    refine wr_get (ci := 10) (f := 12) rfl rfl rfl (by assumption) rfl ?_
    refine wr_get (ci := 8) (f := 0) rfl rfl rfl (by assumption) rfl ?_
    refine wr_if_le rfl rfl rfl (by omega) (fun c7 => by exfalso; omega) (fun c7 => ?_)
    refine wr_aload_n rfl rfl rfl ?_
    refine wr_get (ci := 10) (f := 3) rfl rfl rfl (by assumption) rfl ?_
    refine wr_goto rfl rfl ?_
    refine wr_astore_n (ls' := [_, _]) rfl rfl (Nat.le_of_ble_eq_true rfl) rfl ?_
    refine wr_aload_n rfl rfl rfl ?_
    refine wr_get (ci := 10) (f := 2) rfl rfl rfl (by assumption) rfl ?_
    refine wr_aload_n rfl rfl rfl ?_
    refine wr_aload_n rfl rfl rfl ?_
    refine wr_aload_n rfl rfl rfl ?_
    refine wr_get (ci := 10) (f := 12) rfl rfl rfl (by assumption) rfl ?_
    refine wr_aload_n rfl rfl rfl ?_
    refine wr_get (ci := 10) (f := 12) rfl rfl rfl (by assumption) rfl ?_
    refine wr_get (ci := 8) (f := 0) rfl rfl rfl (by assumption) rfl ?_
    refine wr_cv4 (k' := 85) (ci := 4) rfl rfl rfl rfl (by assumption) rfl rfl (gw_add w mF96 mF96 mF121 (by omega) rfl rfl (by rw [s1]; decide) q1 q3 (by decide) (f1 c)) (fun r h2 q => ?_)
    obtain ⟨rfl, w⟩ := q
    dsimp only [Option.toList, List.cons_append, List.nil_append]
    have caa := w.aa
    have ca0 := w.arc
    unfold arCell at ca0
    have c106 := (w.ff _ mF106).1
    have c111 := (w.ff _ mF111).1
    have c121 := (w.ff _ mF121).1
    refine wr_vret rfl rfl ?_
    exact ⟨rfl, _, w, by rw [updR_s, if_pos c], by rw [updR_n (by decide), if_pos c], fun g g1 g2 => updR_n g1⟩
  · have s1 : (F 121).num.sign ≤ 0 := by
      refine Decidable.byContradiction fun q => c (sp.1.mpr (by omega))
    have e3 : (-F 121).num.sign = (F 121).num.sign * (F 121).num.sign := by
      rw [Rat.neg_num, Int.sign_neg]
      rcases (show (F 121).num.sign = 0 ∨ (F 121).num.sign = -1 by omega) with e | e <;> rw [e] <;> rfl
    try dsimp only at c106 c111 c121
    refine wr_aload_n rfl rfl rfl ?_
    refine wr_get (ci := 10) (f := 12) rfl rfl rfl (by assumption) rfl ?_
    refine wr_get (ci := 8) (f := 0) rfl rfl rfl (by assumption) rfl ?_
    refine wr_if_le rfl rfl rfl (by omega) (fun c7 => ?_) (fun c7 => by exfalso; omega)
    refine wr_aload_n rfl rfl rfl ?_
    refine wr_get (ci := 10) (f := 4) rfl rfl rfl (by assumption) rfl ?_
    refine wr_astore_n (ls' := [_, _]) rfl rfl (Nat.le_of_ble_eq_true rfl) rfl ?_
    refine wr_aload_n rfl rfl rfl ?_
    refine wr_get (ci := 10) (f := 2) rfl rfl rfl (by assumption) rfl ?_
    refine wr_aload_n rfl rfl rfl ?_
    refine wr_aload_n rfl rfl rfl ?_
    refine wr_aload_n rfl rfl rfl ?_
    refine wr_get (ci := 10) (f := 12) rfl rfl rfl (by assumption) rfl ?_
    refine wr_aload_n rfl rfl rfl ?_
    refine wr_get (ci := 10) (f := 12) rfl rfl rfl (by assumption) rfl ?_
    refine wr_get (ci := 8) (f := 0) rfl rfl rfl (by assumption) rfl ?_
    refine wr_cv4 (k' := 85) (ci := 4) rfl rfl rfl rfl (by assumption) rfl rfl (gw_add w mF101 mF101 mF121 (by omega) (Rat.neg_den _) (by rw [Rat.neg_num, Int.natAbs_neg]) e3 q2 q3 (by decide) (f2 c)) (fun r h2 q => ?_)
    obtain ⟨rfl, w⟩ := q
    dsimp only [Option.toList, List.cons_append, List.nil_append]
    have caa := w.aa
    have ca0 := w.arc
    unfold arCell at ca0
    have c106 := (w.ff _ mF106).1
    have c111 := (w.ff _ mF111).1
    have c121 := (w.ff _ mF121).1
    refine wr_vret rfl rfl ?_
    exact ⟨rfl, _, w, by rw [updR_n (by decide), if_neg c], by rw [updR_s, if_neg c], fun g g1 g2 => updR_n g2⟩
theorem gw_trap {d : Nat} (w : GW h0 (h) gn go gl wk ch tk S ws st as ix pl F W) (a1 : qB 2 (F 106)) (a2 : qB 2 (F 111)) (a3 : qB 6 (F 116)) (q1 : qB 97 (F 96)) (q2 : qB 97 (F 101)) (f1 : 0 < (F 106 + F 111) * F 116 → qB 99 (F 96 + (F 106 + F 111) * F 116)) (f2 : ¬ 0 < (F 106 + F 111) * F 116 → qB 99 (F 101 + -((F 106 + F 111) * F 116))) : am_c X (d + 6) 133 [.ref 95] h (fun r h' => r = none ∧ ∃ F', GW h0 (h') gn go gl wk ch tk S ws st as ix pl (F') W ∧ F' 96 = (if 0 < (F 106 + F 111) * F 116 then F 96 + (F 106 + F 111) * F 116 else F 96) ∧ F' 101 = (if 0 < (F 106 + F 111) * F 116 then F 101 else F 101 + -((F 106 + F 111) * F 116)) ∧ ∀ g, g ≠ 96 → g ≠ 101 → g ≠ 121 → F' g = F g) := by
  have caa := w.aa
  have ca0 := w.arc
  unfold arCell at ca0
  have c106 := (w.ff _ mF106).1
  have c111 := (w.ff _ mF111).1
  have c121 := (w.ff _ mF121).1
  try dsimp only at c106 c111 c121
  try dsimp only at c106 c111 c121
  refine am_c.of (Nat.le_of_ble_eq_true rfl) ?_
  show am_w _ _ _ (_, [_], _, _) _
  refine wr_aload_n rfl rfl rfl ?_
  refine wr_get (ci := 10) (f := 2) rfl rfl rfl (by assumption) rfl ?_
  refine wr_aload_n rfl rfl rfl ?_
  refine wr_get (ci := 10) (f := 12) rfl rfl rfl (by assumption) rfl ?_
  refine wr_aload_n rfl rfl rfl ?_
  refine wr_get (ci := 10) (f := 9) rfl rfl rfl (by assumption) rfl ?_
  refine wr_aload_n rfl rfl rfl ?_
  refine wr_get (ci := 10) (f := 10) rfl rfl rfl (by assumption) rfl ?_
  refine wr_iconst rfl rfl ?_
  refine wr_cv4 (k' := 85) (ci := 4) rfl rfl rfl rfl (by assumption) rfl rfl (gw_sum w mF121 mF106 mF111 a1 a2 (by decide)) (fun r h2 q => ?_)
  obtain ⟨rfl, w⟩ := q
  dsimp only [Option.toList, List.cons_append, List.nil_append]
  have caa := w.aa
  have ca0 := w.arc
  unfold arCell at ca0
  have c106 := (w.ff _ mF106).1
  have c111 := (w.ff _ mF111).1
  have c121 := (w.ff _ mF121).1
  obtain ⟨F1, e1⟩ : ∃ z, z = updR F 121 (F 106 + F 111) := ⟨_, rfl⟩
  rw [← e1] at w
  have b1 : qB 5 (F1 121) := by rw [e1, updR_s]; exact (a1.add a2).mono (by decide)
  have b2 : qB 6 (F1 116) := by rw [e1, updR_n (by decide)]; exact a3
  try dsimp only at c106 c111 c121
  refine wr_aload_n rfl rfl rfl ?_
  refine wr_get (ci := 10) (f := 2) rfl rfl rfl (by assumption) rfl ?_
  refine wr_aload_n rfl rfl rfl ?_
  refine wr_get (ci := 10) (f := 12) rfl rfl rfl (by assumption) rfl ?_
  refine wr_aload_n rfl rfl rfl ?_
  refine wr_get (ci := 10) (f := 12) rfl rfl rfl (by assumption) rfl ?_
  refine wr_aload_n rfl rfl rfl ?_
  refine wr_get (ci := 10) (f := 11) rfl rfl rfl (by assumption) rfl ?_
  refine wr_iconst rfl rfl ?_
  refine wr_cv4 (k' := 101) (ci := 4) rfl rfl rfl rfl (by assumption) rfl rfl (gw_mul w mF121 mF121 mF116 b1 b2 (by decide)) (fun r h2 q => ?_)
  obtain ⟨rfl, w⟩ := q
  dsimp only [Option.toList, List.cons_append, List.nil_append]
  have caa := w.aa
  have ca0 := w.arc
  unfold arCell at ca0
  have c106 := (w.ff _ mF106).1
  have c111 := (w.ff _ mF111).1
  have c121 := (w.ff _ mF121).1
  refine wr_aload_n rfl rfl rfl ?_
  obtain ⟨F2, e2⟩ : ∃ z, z = updR F1 121 (F1 121 * F1 116) := ⟨_, rfl⟩
  rw [← e2] at w
  have v : F2 121 = (F 106 + F 111) * F 116 := by rw [e2, updR_s, e1, updR_s, updR_n (by decide)]
  have v96 : F2 96 = F 96 := by rw [e2, updR_n (by decide), e1, updR_n (by decide)]
  have v101 : F2 101 = F 101 := by rw [e2, updR_n (by decide), e1, updR_n (by decide)]
  refine wr_cv0 (k' := 132) (ci := 10) rfl rfl rfl rfl (by assumption) rfl rfl (gw_addShare w (v96.symm ▸ q1) (v101.symm ▸ q2) (by rw [e2, updR_s]; exact (b1.mul b2).mono (by decide)) (by rw [v, v96]; exact f1) (by rw [v, v101]; exact f2)) (fun r h2 q => ?_)
  obtain ⟨rfl, F3, w, s1, s2, s3⟩ := q
  dsimp only [Option.toList, List.nil_append]
  refine wr_vret rfl rfl ?_
  rw [v, v96] at s1
  rw [v, v101] at s2
  exact ⟨rfl, F3, w, s1, s2, fun g g1 g2 g3 => by rw [s3 g g1 g2, e2, updR_n g3, e1, updR_n g3]⟩
theorem gw_tri {d p q0 : Nat} (w : GW h0 (h) gn go gl wk ch tk S ws st as ix pl F W) (hp : (p = 106 ∧ q0 = 111) ∨ (p = 111 ∧ q0 = 106)) (nz : F p - F q0 ≠ 0) (a1 : qB 2 (F p)) (a2 : qB 2 (F q0)) (a3 : qB 6 (F 116)) (q1 : qB 97 (F 96)) (q2 : qB 97 (F 101)) (f1 : 0 < F p * F p * F 116 / (F p - F q0) → qB 99 (F 96 + F p * F p * F 116 / (F p - F q0))) (f2 : ¬ 0 < F p * F p * F 116 / (F p - F q0) → qB 99 (F 101 + -(F p * F p * F 116 / (F p - F q0)))) : am_c X (d + 6) 131 [.ref 95, .ref p, .ref q0] h (fun r h' => r = none ∧ ∃ F', GW h0 (h') gn go gl wk ch tk S ws st as ix pl (F') W ∧ F' 96 = (if 0 < F p * F p * F 116 / (F p - F q0) then F 96 + F p * F p * F 116 / (F p - F q0) else F 96) ∧ F' 101 = (if 0 < F p * F p * F 116 / (F p - F q0) then F 101 else F 101 + -(F p * F p * F 116 / (F p - F q0))) ∧ ∀ g, g ≠ 96 → g ≠ 101 → g ≠ 121 → g ≠ 126 → F' g = F g) := by
  have mp : (p, 16) ∈ LF := by rcases hp with ⟨rfl, rfl⟩ | ⟨rfl, rfl⟩ <;> decide
  have mq : (q0, 16) ∈ LF := by rcases hp with ⟨rfl, rfl⟩ | ⟨rfl, rfl⟩ <;> decide
  have pn : p ≠ 126 ∧ q0 ≠ 126 ∧ p ≠ 121 ∧ q0 ≠ 121 := by omega
  have caa := w.aa
  have ca0 := w.arc
  unfold arCell at ca0
  have c106 := (w.ff _ mF106).1
  have c111 := (w.ff _ mF111).1
  have c121 := (w.ff _ mF121).1
  try dsimp only at c106 c111 c121
  try dsimp only at c106 c111 c121
  refine am_c.of (Nat.le_of_ble_eq_true rfl) ?_
  show am_w _ _ _ (_, [_, _, _], _, _) _
  refine wr_aload_n rfl rfl rfl ?_
  refine wr_get (ci := 10) (f := 2) rfl rfl rfl (by assumption) rfl ?_
  refine wr_aload_n rfl rfl rfl ?_
  refine wr_get (ci := 10) (f := 13) rfl rfl rfl (by assumption) rfl ?_
  refine wr_aload_n rfl rfl rfl ?_
  refine wr_aload_n rfl rfl rfl ?_
  refine wr_iconst rfl rfl ?_
  refine wr_cv4 (k' := 85) (ci := 4) rfl rfl rfl rfl (by assumption) rfl rfl (gw_dif w mF126 mp mq a1 a2 (by decide)) (fun r h2 q => ?_)
  obtain ⟨rfl, w⟩ := q
  dsimp only [Option.toList, List.cons_append, List.nil_append]
  have caa := w.aa
  have ca0 := w.arc
  unfold arCell at ca0
  have c106 := (w.ff _ mF106).1
  have c111 := (w.ff _ mF111).1
  have c121 := (w.ff _ mF121).1
  obtain ⟨F1, e1⟩ : ∃ z, z = updR F 126 (F p - F q0) := ⟨_, rfl⟩
  rw [← e1] at w
  have p1' : F1 p = F p := by rw [e1, updR_n pn.1]
  have b126 : qB 5 (F1 126) := by rw [e1, updR_s, Rat.sub_eq_add_neg]; exact (qB.add a1 a2.neg).mono (by decide)
  try dsimp only at c106 c111 c121
  refine wr_aload_n rfl rfl rfl ?_
  refine wr_get (ci := 10) (f := 2) rfl rfl rfl (by assumption) rfl ?_
  refine wr_aload_n rfl rfl rfl ?_
  refine wr_get (ci := 10) (f := 12) rfl rfl rfl (by assumption) rfl ?_
  refine wr_aload_n rfl rfl rfl ?_
  refine wr_aload_n rfl rfl rfl ?_
  refine wr_iconst rfl rfl ?_
  refine wr_cv4 (k' := 101) (ci := 4) rfl rfl rfl rfl (by assumption) rfl rfl (gw_mul w mF121 mp mp (p1'.symm ▸ a1) (p1'.symm ▸ a1) (by decide)) (fun r h2 q => ?_)
  obtain ⟨rfl, w⟩ := q
  dsimp only [Option.toList, List.cons_append, List.nil_append]
  have caa := w.aa
  have ca0 := w.arc
  unfold arCell at ca0
  have c106 := (w.ff _ mF106).1
  have c111 := (w.ff _ mF111).1
  have c121 := (w.ff _ mF121).1
  obtain ⟨F2, e2⟩ : ∃ z, z = updR F1 121 (F1 p * F1 p) := ⟨_, rfl⟩
  rw [← e2] at w
  have c121' : qB 4 (F2 121) := by rw [e2, updR_s, p1']; exact (a1.mul a1).mono (by decide)
  have c116 : qB 6 (F2 116) := by rw [e2, updR_n (by decide), e1, updR_n (by decide)]; exact a3
  try dsimp only at c106 c111 c121
  refine wr_aload_n rfl rfl rfl ?_
  refine wr_get (ci := 10) (f := 2) rfl rfl rfl (by assumption) rfl ?_
  refine wr_aload_n rfl rfl rfl ?_
  refine wr_get (ci := 10) (f := 12) rfl rfl rfl (by assumption) rfl ?_
  refine wr_aload_n rfl rfl rfl ?_
  refine wr_get (ci := 10) (f := 12) rfl rfl rfl (by assumption) rfl ?_
  refine wr_aload_n rfl rfl rfl ?_
  refine wr_get (ci := 10) (f := 11) rfl rfl rfl (by assumption) rfl ?_
  refine wr_iconst rfl rfl ?_
  refine wr_cv4 (k' := 101) (ci := 4) rfl rfl rfl rfl (by assumption) rfl rfl (gw_mul w mF121 mF121 mF116 c121' c116 (by decide)) (fun r h2 q => ?_)
  obtain ⟨rfl, w⟩ := q
  dsimp only [Option.toList, List.cons_append, List.nil_append]
  have caa := w.aa
  have ca0 := w.arc
  unfold arCell at ca0
  have c106 := (w.ff _ mF106).1
  have c111 := (w.ff _ mF111).1
  have c121 := (w.ff _ mF121).1
  obtain ⟨F3, e3⟩ : ∃ z, z = updR F2 121 (F2 121 * F2 116) := ⟨_, rfl⟩
  rw [← e3] at w
  have d121 : qB 10 (F3 121) := by rw [e3, updR_s]; exact (c121'.mul c116).mono (by decide)
  have v126 : F3 126 = F p - F q0 := by rw [e3, updR_n (by decide), e2, updR_n (by decide), e1, updR_s]
  have d126 : qB 5 (F3 126) := by rw [e3, updR_n (by decide), e2, updR_n (by decide)]; exact b126
  try dsimp only at c106 c111 c121
  refine wr_aload_n rfl rfl rfl ?_
  refine wr_get (ci := 10) (f := 2) rfl rfl rfl (by assumption) rfl ?_
  refine wr_aload_n rfl rfl rfl ?_
  refine wr_get (ci := 10) (f := 12) rfl rfl rfl (by assumption) rfl ?_
  refine wr_aload_n rfl rfl rfl ?_
  refine wr_get (ci := 10) (f := 12) rfl rfl rfl (by assumption) rfl ?_
  refine wr_aload_n rfl rfl rfl ?_
  refine wr_get (ci := 10) (f := 13) rfl rfl rfl (by assumption) rfl ?_
  refine wr_iconst rfl rfl ?_
  refine wr_cv4 (k' := 101) (ci := 4) rfl rfl rfl rfl (by assumption) rfl rfl (gw_quo w mF121 mF121 mF126 (by rw [v126]; exact nz) d121 d126 (by decide)) (fun r h2 q => ?_)
  obtain ⟨rfl, w⟩ := q
  dsimp only [Option.toList, List.cons_append, List.nil_append]
  have caa := w.aa
  have ca0 := w.arc
  unfold arCell at ca0
  have c106 := (w.ff _ mF106).1
  have c111 := (w.ff _ mF111).1
  have c121 := (w.ff _ mF121).1
  refine wr_aload_n rfl rfl rfl ?_
  obtain ⟨F4, e4⟩ : ∃ z, z = updR F3 121 (F3 121 / F3 126) := ⟨_, rfl⟩
  rw [← e4] at w
  have v : F4 121 = F p * F p * F 116 / (F p - F q0) := by
    rw [e4, updR_s, v126, e3, updR_s, e2, updR_s, updR_n (by decide), p1', e1, updR_n (by decide)]
  have v96 : F4 96 = F 96 := by rw [e4, updR_n (by decide), e3, updR_n (by decide), e2, updR_n (by decide), e1, updR_n (by decide)]
  have v101 : F4 101 = F 101 := by rw [e4, updR_n (by decide), e3, updR_n (by decide), e2, updR_n (by decide), e1, updR_n (by decide)]
  have q121 : qB 15 (F4 121) := by
    rw [e4, updR_s, Rat.div_def]
    exact (d121.mul (d126.inv (fun z => (by rw [v126] at z; exact nz (Rat.num_eq_zero.mp z))))).mono (by decide)
  refine wr_cv0 (k' := 132) (ci := 10) rfl rfl rfl rfl (by assumption) rfl rfl (gw_addShare w (v96.symm ▸ q1) (v101.symm ▸ q2) q121 (by rw [v, v96]; exact f1) (by rw [v, v101]; exact f2)) (fun r h2 q => ?_)
  obtain ⟨rfl, F5, w, s1, s2, s3⟩ := q
  dsimp only [Option.toList, List.nil_append]
  refine wr_vret rfl rfl ?_
  rw [v, v96] at s1
  rw [v, v101] at s2
  exact ⟨rfl, F5, w, s1, s2, fun g g1 g2 g3 g4 => by rw [s3 g g1 g2, e4, updR_n g3, e3, updR_n g3, e2, updR_n g3, e1, updR_n g4]⟩
theorem opp_sign {a b : Rat} : opp a b ↔ a.num.sign * b.num.sign < 0 := by
  have x := sign_pos (q := a)
  have y := sign_pos (q := b)
  have sa : a.num.sign = 1 ∨ a.num.sign = 0 ∨ a.num.sign = -1 := by
    rcases Int.lt_trichotomy a.num 0 with c | c | c
    · exact Or.inr (Or.inr (Int.sign_eq_neg_one_of_neg c))
    · rw [c]; exact Or.inr (Or.inl rfl)
    · exact Or.inl (Int.sign_eq_one_of_pos c)
  have sb : b.num.sign = 1 ∨ b.num.sign = 0 ∨ b.num.sign = -1 := by
    rcases Int.lt_trichotomy b.num 0 with c | c | c
    · exact Or.inr (Or.inr (Int.sign_eq_neg_one_of_neg c))
    · rw [c]; exact Or.inr (Or.inl rfl)
    · exact Or.inl (Int.sign_eq_one_of_pos c)
  unfold opp
  rw [x.1, x.2, y.1, y.2]
  rcases sa with e | e | e <;> rcases sb with f | f | f <;> rw [e, f] <;> decide
/-- the measured piece is added -/
theorem gw_addP {d it c : Nat} (w : GW h0 (h) gn go gl wk ch tk S ws st as ix pl F W) {a b w0 : Rat} {dd ru KK : Int} (ph : pcH a b w0 dd ru KK) (e1 : F 106 = a) (e2 : F 111 = b) (e3 : F 116 = w0 / 2) (q1 : qB 2 (F 106)) (q2 : qB 2 (F 111)) (q3 : qB 6 (F 116)) (c1 : cuB c (F 96)) (c2 : cuB c (F 101)) (hc : c < 36) {Q : Option Value → am_H → Prop} (kk : ∀ (h' : am_H) (F' : Nat → Rat), GW h0 (h') gn go gl wk ch tk S ws st as ix pl (F') W → F' 96 = F 96 + pcC a b w0 → F' 101 = F 101 + pcF a b w0 → (∀ g, g ≠ 96 → g ≠ 101 → g ≠ 121 → g ≠ 126 → F' g = F g) → am_w X (d + 6) 122 (118, [.ref 95, .int (iI it)], [], h') Q) : am_w X (d + 6) 122 (69, [.ref 95, .int (iI it)], [], h) Q := by
  have sh := ph.share
  have hw := ph.hw.1
  have n1 := (c1.add sh.1).sz (by omega)
  have n2 := (c2.add sh.2).sz (by omega)
  have z1 := c1.sz (by omega)
  have z2 := c2.sz (by omega)
  have os := opp_sign (a := F 106) (b := F 111)
  have sa : -1 ≤ (F 106).num.sign * (F 111).num.sign ∧ (F 106).num.sign * (F 111).num.sign ≤ 1 := by
    have a1 : -1 ≤ (F 106).num.sign ∧ (F 106).num.sign ≤ 1 := by
      rcases Int.lt_trichotomy (F 106).num 0 with c | c | c
      · rw [Int.sign_eq_neg_one_of_neg c]; decide
      · rw [c]; decide
      · rw [Int.sign_eq_one_of_pos c]; decide
    have a2 : -1 ≤ (F 111).num.sign ∧ (F 111).num.sign ≤ 1 := by
      rcases Int.lt_trichotomy (F 111).num 0 with c | c | c
      · rw [Int.sign_eq_neg_one_of_neg c]; decide
      · rw [c]; decide
      · rw [Int.sign_eq_one_of_pos c]; decide
    exact mulB (A := 1) (B := 1) a1 a2
  have caa := w.aa
  have ca0 := w.arc
  unfold arCell at ca0
  have c106 := (w.ff _ mF106).1
  have c111 := (w.ff _ mF111).1
  have c121 := (w.ff _ mF121).1
  try dsimp only at c106 c111 c121
  by_cases o : opp a b
  · have o' : (F 106).num.sign * (F 111).num.sign < 0 := os.mp (by rw [e1, e2]; exact o)
    have tc := tri_cases o hw
    have nz : a - b ≠ 0 := by unfold opp at o; grind
    have nz2 : b - a ≠ 0 := by unfold opp at o; grind
    refine wr_aload_n rfl rfl rfl ?_
    refine wr_get (ci := 10) (f := 9) rfl rfl rfl (by assumption) rfl ?_
    refine wr_get (ci := 8) (f := 0) rfl rfl rfl (by assumption) rfl ?_
    refine wr_aload_n rfl rfl rfl ?_
    refine wr_get (ci := 10) (f := 10) rfl rfl rfl (by assumption) rfl ?_
    refine wr_get (ci := 8) (f := 0) rfl rfl rfl (by assumption) rfl ?_
    refine wr_imul rfl rfl ?_
    refine wr_if_ge rfl rfl rfl (by omega) (fun c84 => by exfalso; omega) (fun c84 => ?_)
    refine wr_aload_n rfl rfl rfl ?_
    refine wr_aload_n rfl rfl rfl ?_
    refine wr_get (ci := 10) (f := 9) rfl rfl rfl (by assumption) rfl ?_
    refine wr_aload_n rfl rfl rfl ?_
    refine wr_get (ci := 10) (f := 10) rfl rfl rfl (by assumption) rfl ?_
    by_cases p : 0 < a
    · obtain ⟨t1, t2, t3, t4⟩ := tc.1 p
      rw [t3] at n1 kk
      rw [t4] at n2 kk
      refine wr_cv2 (k' := 131) (ci := 10) rfl rfl rfl rfl (by assumption) rfl rfl (gw_tri w (Or.inl ⟨rfl, rfl⟩) (by rw [e1, e2]; exact nz) q1 q2 q3 z1 z2 (fun _ => by rw [e1, e2, e3]; exact n1.mono (by decide)) (fun z => absurd t1 (by rw [← e1, ← e2, ← e3]; exact z))) (fun r h2 q => ?_)
      obtain ⟨rfl, F1, w, s1, s2, s3⟩ := q
      dsimp only [Option.toList, List.nil_append]
      rw [e1, e2, e3, if_pos t1] at s1 s2
      have u106 := s3 106 (by decide) (by decide) (by decide) (by decide)
      have u111 := s3 111 (by decide) (by decide) (by decide) (by decide)
      have u116 := s3 116 (by decide) (by decide) (by decide) (by decide)
      have caa := w.aa
      have ca0 := w.arc
      unfold arCell at ca0
      have c106 := (w.ff _ mF106).1
      have c111 := (w.ff _ mF111).1
      have c121 := (w.ff _ mF121).1
      try dsimp only at c106 c111 c121
      refine wr_aload_n rfl rfl rfl ?_
      refine wr_aload_n rfl rfl rfl ?_
      refine wr_get (ci := 10) (f := 10) rfl rfl rfl (by assumption) rfl ?_
      refine wr_aload_n rfl rfl rfl ?_
      refine wr_get (ci := 10) (f := 9) rfl rfl rfl (by assumption) rfl ?_
      refine wr_cv2 (k' := 131) (ci := 10) rfl rfl rfl rfl (by assumption) rfl rfl (gw_tri w (Or.inr ⟨rfl, rfl⟩) (by rw [u106, u111, e1, e2]; exact nz2) (u111.symm ▸ q2) (u106.symm ▸ q1) (u116.symm ▸ q3) (by rw [s1]; exact n1) (by rw [s2]; exact z2) (fun z => absurd z (by rw [u106, u111, u116, e1, e2, e3]; exact t2)) (fun _ => by rw [s2, u106, u111, u116, e1, e2, e3]; exact n2.mono (by decide))) (fun r h2 q => ?_)
      obtain ⟨rfl, F2, w, s4, s5, s6⟩ := q
      dsimp only [Option.toList, List.nil_append]
      rw [u106, u111, u116, e1, e2, e3, if_neg t2] at s4 s5
      rw [s1] at s4
      rw [s2] at s5
      refine wr_goto rfl rfl ?_
      exact kk _ F2 w s4 s5 (fun g g1 g2 g3 g4 => by rw [s6 g g1 g2 g3 g4, s3 g g1 g2 g3 g4])
    · obtain ⟨t1, t2, t3, t4⟩ := tc.2 p
      rw [t3] at n1 kk
      rw [t4] at n2 kk
      refine wr_cv2 (k' := 131) (ci := 10) rfl rfl rfl rfl (by assumption) rfl rfl (gw_tri w (Or.inl ⟨rfl, rfl⟩) (by rw [e1, e2]; exact nz) q1 q2 q3 z1 z2 (fun z => absurd z (by rw [e1, e2, e3]; exact t1)) (fun _ => by rw [e1, e2, e3]; exact n2.mono (by decide))) (fun r h2 q => ?_)
      obtain ⟨rfl, F1, w, s1, s2, s3⟩ := q
      dsimp only [Option.toList, List.nil_append]
      rw [e1, e2, e3, if_neg t1] at s1 s2
      have u106 := s3 106 (by decide) (by decide) (by decide) (by decide)
      have u111 := s3 111 (by decide) (by decide) (by decide) (by decide)
      have u116 := s3 116 (by decide) (by decide) (by decide) (by decide)
      have caa := w.aa
      have ca0 := w.arc
      unfold arCell at ca0
      have c106 := (w.ff _ mF106).1
      have c111 := (w.ff _ mF111).1
      have c121 := (w.ff _ mF121).1
      try dsimp only at c106 c111 c121
      refine wr_aload_n rfl rfl rfl ?_
      refine wr_aload_n rfl rfl rfl ?_
      refine wr_get (ci := 10) (f := 10) rfl rfl rfl (by assumption) rfl ?_
      refine wr_aload_n rfl rfl rfl ?_
      refine wr_get (ci := 10) (f := 9) rfl rfl rfl (by assumption) rfl ?_
      refine wr_cv2 (k' := 131) (ci := 10) rfl rfl rfl rfl (by assumption) rfl rfl (gw_tri w (Or.inr ⟨rfl, rfl⟩) (by rw [u106, u111, e1, e2]; exact nz2) (u111.symm ▸ q2) (u106.symm ▸ q1) (u116.symm ▸ q3) (by rw [s1]; exact z1) (by rw [s2]; exact n2) (fun _ => by rw [s1, u106, u111, u116, e1, e2, e3]; exact n1.mono (by decide)) (fun z => absurd t2 (by rw [u106, u111, u116, e1, e2, e3] at z; exact z))) (fun r h2 q => ?_)
      obtain ⟨rfl, F2, w, s4, s5, s6⟩ := q
      dsimp only [Option.toList, List.nil_append]
      rw [u106, u111, u116, e1, e2, e3, if_pos t2] at s4 s5
      rw [s1] at s4
      rw [s2] at s5
      refine wr_goto rfl rfl ?_
      exact kk _ F2 w s4 s5 (fun g g1 g2 g3 g4 => by rw [s6 g g1 g2 g3 g4, s3 g g1 g2 g3 g4])
  · have o' : ¬ (F 106).num.sign * (F 111).num.sign < 0 := fun z => o (by have := os.mpr z; rw [e1, e2] at this; exact this)
    obtain ⟨t1, t2⟩ := trap_cases o hw
    rw [t1] at n1 kk
    rw [t2] at n2 kk
    refine wr_aload_n rfl rfl rfl ?_
    refine wr_get (ci := 10) (f := 9) rfl rfl rfl (by assumption) rfl ?_
    refine wr_get (ci := 8) (f := 0) rfl rfl rfl (by assumption) rfl ?_
    refine wr_aload_n rfl rfl rfl ?_
    refine wr_get (ci := 10) (f := 10) rfl rfl rfl (by assumption) rfl ?_
    refine wr_get (ci := 8) (f := 0) rfl rfl rfl (by assumption) rfl ?_
    refine wr_imul rfl rfl ?_
    refine wr_if_ge rfl rfl rfl (by omega) (fun c84 => ?_) (fun c84 => by exfalso; omega)
    refine wr_aload_n rfl rfl rfl ?_
    refine wr_cv0 (k' := 133) (ci := 10) rfl rfl rfl rfl (by assumption) rfl rfl (gw_trap w q1 q2 q3 z1 z2 (fun z => by rw [e1, e2, e3] at z ⊢; rw [if_pos z] at n1; exact n1.mono (by decide)) (fun z => by rw [e1, e2, e3] at z ⊢; rw [if_neg z] at n2; exact n2.mono (by decide))) (fun r h2 q => ?_)
    obtain ⟨rfl, F1, w, s1, s2, s3⟩ := q
    dsimp only [Option.toList, List.nil_append]
    rw [e1, e2, e3] at s1 s2
    refine kk _ F1 w ?_ ?_ (fun g g1 g2 g3 g4 => s3 g g1 g2 g3)
    · rw [s1]
      split
      · rfl
      · grind
    · rw [s2]
      split
      · grind
      · rfl
theorem reA_nn (H : seH gn go gl S F) (hb : b = 46 ∨ b = 62) (R : srH gn go b (S b) (F (b + 6)) i x) : 0 ≤ reA gn go S F p1 b i x := by
  have rs : ∀ {bb : Nat}, (bb = 46 ∨ bb = 62) → 0 < i → 0 ≤ reS gn go (sgO bb) (S bb) (F (bb + 6)) one3 i x := by
    intro bb hbb hi
    unfold reS
    split
    · rename_i c
      have a := (arI_cnt (s := S bb) (eo := F (bb + 6)) (i := i) H.ok (sgO_in bb) x).2.1
      have t := (arT_cnt (H.sd hbb) H.ok (sgO_in bb) ((S bb).N - i) (i + 1) (by omega) (by omega)).2
      grind
    · exact Rat.le_refl
  unfold reA
  rcases hb with rfl | rfl
  · rw [if_pos rfl]
    have a := rs (bb := 46) (Or.inl rfl) R.1
    have t := (arT_cnt H.rg H.ok (sgO_in 62) (S 62).N 1 (by omega) (by omega)).2
    show 0 ≤ reS gn go (sgO 46) (S 46) (F 52) one3 i x + arT gn go (sgO 62) (S 62) (F 68) one3 (S 62).N 1
    have a' : 0 ≤ reS gn go (sgO 46) (S 46) (F 52) one3 i x := a
    grind
  · rw [if_neg (by decide)]
    exact rs (bb := 62) (Or.inr rfl) R.1
theorem reA_one (H : seH gn go gl S F) (hb : b = 46 ∨ b = 62) (R : srH gn go b (S b) (F (b + 6)) i x) (hi : i ≤ (S b).N) (lt : (x : Rat) < OuQ (S b) (F (b + 6)) i) : 1 ≤ reA gn go S F p1 b i x := by
  have rs : ∀ {bb : Nat}, (bb = 46 ∨ bb = 62) → 0 < i → i ≤ (S bb).N → (x : Rat) < OuQ (S bb) (F (bb + 6)) i → 1 ≤ reS gn go (sgO bb) (S bb) (F (bb + 6)) one3 i x := by
    intro bb hbb h0 hi lt
    unfold reS arI
    rw [if_pos hi, if_pos lt]
    have a := (coF_cnt (u := uO gn go (sgO bb)) (b := OuQ (S bb) (F (bb + 6)) i) gn 0 x).2
    have t := (arT_cnt (H.sd hbb) H.ok (sgO_in bb) ((S bb).N - i) (i + 1) (by omega) (by omega)).2
    have a' : 1 ≤ coF (uO gn go (sgO bb)) (one3 i) (OuQ (S bb) (F (bb + 6)) i) gn 0 x := a
    grind
  unfold reA
  rcases hb with rfl | rfl
  · rw [if_pos rfl]
    have a : 1 ≤ reS gn go (sgO 46) (S 46) (F 52) one3 i x := rs (bb := 46) (Or.inl rfl) R.1 hi lt
    have t := (arT_cnt H.rg H.ok (sgO_in 62) (S 62).N 1 (by omega) (by omega)).2
    show 1 ≤ reS gn go (sgO 46) (S 46) (F 52) one3 i x + arT gn go (sgO 62) (S 62) (F 68) one3 (S 62).N 1
    grind
  · rw [if_neg (by decide)]
    exact rs (bb := 62) (Or.inr rfl) R.1 hi lt
theorem reA_36 (H : seH gn go gl S F) : reA gn go S F p1 46 1 0 ≤ ((36 : Nat) : Int) := by
  have nL := H.lf.ok.1
  have nR := H.rg.ok.1
  have n12 := H.ok.1
  have a := (arT_cnt H.lf H.ok (sgO_in 46) (S 46).N 1 (by omega) (by omega)).1
  have t := (arT_cnt H.rg H.ok (sgO_in 62) (S 62).N 1 (by omega) (by omega)).1
  rw [Nat.sub_self, H.lf.o0] at a
  rw [Nat.sub_self, H.rg.o0] at t
  have kb := kO_both H.ok
  have e1 : sgO 46 = -1 := rfl
  have e2 : sgO 62 = 1 := rfl
  unfold reA
  rw [if_pos rfl, reS_start H.lf.o0]
  show arT gn go (sgO 46) (S 46) (F 52) one3 (S 46).N 1 + arT gn go (sgO 62) (S 62) (F 68) one3 (S 62).N 1 ≤ _
  have le : ((((S 46).N + (gn - kO gn go (sgO 46) 0) : Nat) : Int) : Rat) + ((((S 62).N + (gn - kO gn go (sgO 62) 0) : Nat) : Int) : Rat) ≤ (((36 : Nat) : Int) : Rat) := by
    rw [← Rat.intCast_add]
    refine Rat.intCast_le_intCast.mpr ?_
    rw [e1, e2]
    omega
  exact Rat.le_trans (by grind) le
theorem seH.keep {F' : Nat → Rat} (H : seH gn go gl S F) (e : F' 52 = F 52 ∧ F' 57 = F 57 ∧ F' 68 = F 68 ∧ F' 73 = F 73) : seH gn go gl S F' := ⟨H.ok, by rw [e.1, e.2.1]; exact H.lf, by rw [e.2.2.1, e.2.2.2]; exact H.rg⟩
theorem reA_keep {F' : Nat → Rat} {P : Nat → Nat → Rat → Rat → Rat} {q : Rat} (e : F' 52 = F 52 ∧ F' 68 = F 68) : reA gn go S F' P b i q = reA gn go S F P b i q := by
  unfold reA
  rw [e.1, e.2]
theorem gw_settle0 {d : Nat} (w : GW h0 (h) gn go gl wk ch tk S ws (1) as ix pl F W) : am_c X (d + 7) 122 [.ref 95] h (fun r h' => r = none ∧ GW h0 (h') gn go gl wk ch tk S ws (1) as ix pl F W) := by
  have caa := w.aa
  refine am_c.of (Nat.le_of_ble_eq_true rfl) ?_
  show am_w _ _ _ (_, [_, _], _, _) _
  refine wr_aload_n rfl rfl rfl ?_
  refine wr_get (ci := 10) (f := 5) rfl rfl rfl (by assumption) rfl ?_
  refine wr_if_eq rfl rfl rfl (by omega) (fun c4 => by exfalso; omega) (fun c4 => ?_)
  refine wr_vret rfl rfl ?_
  exact ⟨rfl, w⟩
theorem gw_settle {d : Nat} (w : GW h0 (h) gn go gl wk ch tk S ws (0) as ix pl F W) (H : seH gn go gl S F) : am_c X (d + 7) 122 [.ref 95] h (fun r h' => r = none ∧ ∃ F' as' ix' pl', GW h0 (h') gn go gl wk ch tk S ws (1) (as') (ix') (pl') (F') W ∧ F' 96 = reA gn go S F (pC gn go gl S) 46 1 0 ∧ F' 101 = reA gn go S F (pF gn go gl S) 46 1 0 ∧ keepA F F' ∧ cuB 36 (F' 96) ∧ cuB 36 (F' 101)) := by
  have R36 := reA_36 H
  have mono36 : ∀ {c : Nat} {q : Rat}, c ≤ 36 → cuB c q → cuB 36 q := by
    intro c q hc hq
    have : ∀ m c, c + m = 36 → cuB c q → cuB 36 q := by
      intro m
      induction m with
      | zero => intro c e hq; rw [show (36 : Nat) = c by omega]; exact hq
      | succ m ih => intro c e hq; exact ih (c + 1) (by omega) hq.zero
    exact this (36 - c) c (by omega) hq
  have L : ∀ (m c b i : Nat) (x : Int) (F1 : Nat → Rat) (h : am_H), c + m = 36 → (b = 46 ∨ b = 62) → srH gn go b (S b) (F (b + 6)) i x → keepA F F1 → cuB c (F1 96) → cuB c (F1 101) → F1 96 + reA gn go S F (pC gn go gl S) b i x = reA gn go S F (pC gn go gl S) 46 1 0 → F1 101 + reA gn go S F (pF gn go gl S) b i x = reA gn go S F (pF gn go gl S) 46 1 0 → ((c : Int) : Rat) + reA gn go S F p1 b i x = reA gn go S F p1 46 1 0 → GW h0 (h) gn go gl wk ch tk S ws (1) (b) ((i : Int)) (x) (F1) W → am_w X (d + 6) 122 (52, [.ref 95, .int (iI c)], [], h) (fun r h' => r = none ∧ ∃ F' as' ix' pl', GW h0 (h') gn go gl wk ch tk S ws (1) (as') (ix') (pl') (F') W ∧ F' 96 = reA gn go S F (pC gn go gl S) 46 1 0 ∧ F' 101 = reA gn go S F (pF gn go gl S) 46 1 0 ∧ keepA F F' ∧ cuB 36 (F' 96) ∧ cuB 36 (F' 101)) := by
    intro m
    induction m with
    | zero =>
      intro c b i x F1 h hc hb R K c1 c2 e1 e2 e3 w
      have k4 : F1 52 = F 52 ∧ F1 57 = F 57 ∧ F1 68 = F 68 ∧ F1 73 = F 73 := ⟨K _ (by decide) (by decide) (by decide) (by decide) (by decide) (by decide) (by decide), K _ (by decide) (by decide) (by decide) (by decide) (by decide) (by decide) (by decide), K _ (by decide) (by decide) (by decide) (by decide) (by decide) (by decide) (by decide), K _ (by decide) (by decide) (by decide) (by decide) (by decide) (by decide) (by decide)⟩
      have R1 : srH gn go b (S b) (F1 (b + 6)) i x := by
        rcases hb with rfl | rfl
        · show srH gn go 46 (S 46) (F1 52) i x; rw [k4.1]; exact R
        · show srH gn go 62 (S 62) (F1 68) i x; rw [k4.2.2.1]; exact R
      have caa := w.aa
      refine wr_iload_n rfl rfl rfl ?_
      refine wr_ldc (z := 1000000) rfl rfl rfl (by decide) ?_
      refine wr_icmp_ge rfl rfl rfl (by omega) (by omega) (fun c55 => by exfalso; omega) (fun c55 => ?_)
      refine wr_aload_n rfl rfl rfl ?_
      refine wr_cv0 (k' := 124) (ci := 10) rfl rfl rfl rfl (by assumption) rfl rfl (gw_find w hb (H.keep k4) R1) (fun r h2 q => ?_)
      obtain ⟨b', i', x', w, hb', R', eP, q⟩ := q
      rcases q with ⟨rfl, hi', lt'⟩ | ⟨rfl, z⟩
      · exfalso
        have p := eP p1
        rw [reA_keep ⟨k4.1, k4.2.2.1⟩, reA_keep ⟨k4.1, k4.2.2.1⟩] at p
        -- a piece is left, though 36 are counted
        have D := (H.keep k4).sd hb'
        have one : 1 ≤ reA gn go S F p1 b' i' x' := by
          rw [← reA_keep (F := F) (F' := F1) ⟨k4.1, k4.2.2.1⟩]
          exact reA_one (H.keep k4) hb' R' hi' lt'
        have ce : ((c : Int) : Rat) = ((36 : Nat) : Int) := by rw [show c = 36 by omega]
        rw [ce] at e3
        have : ((((36 : Nat) : Int)) : Rat) + 1 ≤ ((36 : Nat) : Int) := by grind
        grind
      · dsimp only [Option.toList, List.cons_append, List.nil_append]
        refine wr_if_eq rfl rfl rfl (by omega) (fun c62 => ?_) (fun c62 => by exfalso; omega)
        refine wr_vret rfl rfl ?_
        refine ⟨rfl, F1, b', _, x', w, ?_, ?_, K, mono36 (by omega) c1, mono36 (by omega) c2⟩
        · have z1 := z (pC gn go gl S)
          rw [eP, reA_keep ⟨k4.1, k4.2.2.1⟩] at z1
          grind
        · have z1 := z (pF gn go gl S)
          rw [eP, reA_keep ⟨k4.1, k4.2.2.1⟩] at z1
          grind
    | succ m ih =>
      intro c b i x F1 h hc hb R K c1 c2 e1 e2 e3 w
      have k4 : F1 52 = F 52 ∧ F1 57 = F 57 ∧ F1 68 = F 68 ∧ F1 73 = F 73 := ⟨K _ (by decide) (by decide) (by decide) (by decide) (by decide) (by decide) (by decide), K _ (by decide) (by decide) (by decide) (by decide) (by decide) (by decide) (by decide), K _ (by decide) (by decide) (by decide) (by decide) (by decide) (by decide) (by decide), K _ (by decide) (by decide) (by decide) (by decide) (by decide) (by decide) (by decide)⟩
      have H1 := H.keep k4
      have R1 : srH gn go b (S b) (F1 (b + 6)) i x := by
        rcases hb with rfl | rfl
        · show srH gn go 46 (S 46) (F1 52) i x; rw [k4.1]; exact R
        · show srH gn go 62 (S 62) (F1 68) i x; rw [k4.2.2.1]; exact R
      have caa := w.aa
      refine wr_iload_n rfl rfl rfl ?_
      refine wr_ldc (z := 1000000) rfl rfl rfl (by decide) ?_
      refine wr_icmp_ge rfl rfl rfl (by omega) (by omega) (fun c55 => by exfalso; omega) (fun c55 => ?_)
      refine wr_aload_n rfl rfl rfl ?_
      refine wr_cv0 (k' := 124) (ci := 10) rfl rfl rfl rfl (by assumption) rfl rfl (gw_find w hb H1 R1) (fun r h2 q => ?_)
      obtain ⟨b', i', x', w, hb', R', eP, q⟩ := q
      rcases q with ⟨rfl, hi', lt'⟩ | ⟨rfl, z⟩
      · dsimp only [Option.toList, List.cons_append, List.nil_append]
        have caa := w.aa
        refine wr_if_eq rfl rfl rfl (by omega) (fun c62 => by exfalso; omega) (fun c62 => ?_)
        refine wr_aload_n rfl rfl rfl ?_
        refine wr_cv0 (k' := 125) (ci := 10) rfl rfl rfl rfl (by assumption) rfl rfl (gw_measure w hb' H1.ok (H1.sd hb') R' hi' lt') (fun r h2 q => ?_)
        obtain ⟨rfl, F2, i2, x2, y, w, a1, a2, a3, a4, a5, a6, ⟨dd, ru, KK, ph⟩, a8, a9, a10⟩ := q
        dsimp only [Option.toList, List.nil_append]
        have b96 := a4 96 (by decide) (by decide) (by decide) (by decide)
        have b101 := a4 101 (by decide) (by decide) (by decide) (by decide)
        refine gw_addP (c := c) w ph a1 a2 a3 a8 a9 a10 (b96.symm ▸ c1) (b101.symm ▸ c2) (by omega) (fun h3 F3 w3 f1 f2 f3 => ?_)
        have w := w3
        refine wr_iinc (ls' := [_, _]) rfl rfl rfl rfl ?_
        refine wr_goto rfl rfl ?_
        rw [show (c : Int) + 1 = ((c + 1 : Nat) : Int) by omega]
        -- what is left
        have rel : ∀ P, reA gn go S F P b' i' x' = P b' i' x' y + reA gn go S F P b' i2 x2 := by
          intro P
          unfold reA
          rcases hb' with rfl | rfl
          · rw [if_pos rfl, if_pos rfl]
            have z := a6 (P 46)
            have k : F1 (46 + 6) = F 52 := k4.1
            rw [k] at z
            rw [z]
            grind
          · rw [if_neg (by decide), if_neg (by decide)]
            have z := a6 (P 62)
            have k : F1 (62 + 6) = F 68 := k4.2.2.1
            rw [k] at z
            exact z
        have eQ : ∀ P, reA gn go S F P b i x = P b' i' x' y + reA gn go S F P b' i2 x2 := fun P => by
          have z := eP P
          rw [reA_keep ⟨k4.1, k4.2.2.1⟩, reA_keep ⟨k4.1, k4.2.2.1⟩] at z
          rw [← z, rel]
        have R2 : srH gn go b' (S b') (F (b' + 6)) i2 x2 := by
          rcases hb' with rfl | rfl
          · have z : srH gn go 46 (S 46) (F1 52) i2 x2 := a5
            rw [k4.1] at z; exact z
          · have z : srH gn go 62 (S 62) (F1 68) i2 x2 := a5
            rw [k4.2.2.1] at z; exact z
        have sh := ph.share
        refine ih (c + 1) b' i2 x2 F3 _ (by omega) hb' R2 (fun g g1 g2 g3 g4 g5 g6 g7 => ?_) ?_ ?_ ?_ ?_ ?_ w
        · rw [f3 g g1 g2 g6 g7, a4 g g3 g4 g5 g7, K g g1 g2 g3 g4 g5 g6 g7]
        · rw [f1, b96]; exact c1.add sh.1
        · rw [f2, b101]; exact c2.add sh.2
        · rw [f1, b96, ← e1, eQ]
          show F1 96 + pC gn go gl S b' i' x' y + _ = _
          grind
        · rw [f2, b101, ← e2, eQ]
          show F1 101 + pF gn go gl S b' i' x' y + _ = _
          grind
        · rw [← e3, eQ]
          have o : p1 b' i' x' y = 1 := rfl
          rw [o, show ((c + 1 : Nat) : Int) = (c : Int) + 1 by omega]
          grind
      · dsimp only [Option.toList, List.cons_append, List.nil_append]
        refine wr_if_eq rfl rfl rfl (by omega) (fun c62 => ?_) (fun c62 => by exfalso; omega)
        refine wr_vret rfl rfl ?_
        refine ⟨rfl, F1, b', _, x', w, ?_, ?_, K, mono36 (by omega) c1, mono36 (by omega) c2⟩
        · have z1 := z (pC gn go gl S)
          rw [eP, reA_keep ⟨k4.1, k4.2.2.1⟩] at z1
          grind
        · have z1 := z (pF gn go gl S)
          rw [eP, reA_keep ⟨k4.1, k4.2.2.1⟩] at z1
          grind
  have caa := w.aa
  have ca0 := w.arc
  unfold arCell at ca0
  have cs0 := w.se.1
  refine am_c.of (Nat.le_of_ble_eq_true rfl) ?_
  show am_w _ _ _ (_, [_, _], _, _) _
  refine wr_aload_n rfl rfl rfl ?_
  refine wr_get (ci := 10) (f := 5) rfl rfl rfl (by assumption) rfl ?_
  refine wr_if_eq rfl rfl rfl (by omega) (fun c4 => ?_) (fun c4 => by exfalso; omega)
  refine wr_aload_n rfl rfl rfl ?_
  refine wr_iconst rfl rfl ?_
  refine wr_putZ (ci := 10) (f := 5) (fs' := [_, _, _, _, _, _, _, _, _, _, _, _, _, _]) rfl rfl rfl (by assumption) rfl rfl (by decide) rfl (fun h1 e1 => ?_)
  have w := e1 ▸ w.setA 1 as ix pl
  clear e1
  have caa := w.aa
  have ca0 := w.arc
  unfold arCell at ca0
  have cs0 := w.se.1
  refine wr_aload_n rfl rfl rfl ?_
  refine wr_get (ci := 10) (f := 2) rfl rfl rfl (by assumption) rfl ?_
  refine wr_aload_n rfl rfl rfl ?_
  refine wr_get (ci := 10) (f := 3) rfl rfl rfl (by assumption) rfl ?_
  refine wr_lconst (z := 0) rfl rfl rfl ?_
  refine wr_lconst (z := 1) rfl rfl rfl ?_
  refine wr_cv3 (k' := 79) (ci := 4) rfl rfl rfl rfl (by assumption) rfl rfl (gw_ratio w mF96 (by decide) (by decide)) (fun r h2 q => ?_)
  obtain ⟨rfl, w⟩ := q
  dsimp only [Option.toList, List.nil_append]
  have caa := w.aa
  have ca0 := w.arc
  unfold arCell at ca0
  have cs0 := w.se.1
  refine wr_aload_n rfl rfl rfl ?_
  refine wr_get (ci := 10) (f := 2) rfl rfl rfl (by assumption) rfl ?_
  refine wr_aload_n rfl rfl rfl ?_
  refine wr_get (ci := 10) (f := 4) rfl rfl rfl (by assumption) rfl ?_
  refine wr_lconst (z := 0) rfl rfl rfl ?_
  refine wr_lconst (z := 1) rfl rfl rfl ?_
  refine wr_cv3 (k' := 79) (ci := 4) rfl rfl rfl rfl (by assumption) rfl rfl (gw_ratio w mF101 (by decide) (by decide)) (fun r h2 q => ?_)
  obtain ⟨rfl, w⟩ := q
  dsimp only [Option.toList, List.nil_append]
  have caa := w.aa
  have cs0 := w.se.1
  refine wr_aload_n rfl rfl rfl ?_
  refine wr_aload_n rfl rfl rfl ?_
  refine wr_get (ci := 10) (f := 0) rfl rfl rfl (by assumption) rfl ?_
  refine wr_get (ci := 6) (f := 0) rfl rfl rfl (by assumption) rfl ?_
  refine wr_cv1 (k' := 123) (ci := 10) rfl rfl rfl rfl (by assumption) rfl rfl (gw_startAt (b := 46) w) (fun r h2 q => ?_)
  obtain ⟨rfl, w⟩ := q
  dsimp only [Option.toList, List.nil_append]
  refine wr_iconst rfl rfl ?_
  refine wr_istore_n (ls' := [_, _]) rfl rfl (Nat.le_of_ble_eq_true rfl) rfl ?_
  have d0 : Rat.divInt 0 1 = 0 := by rw [div1]; rfl
  rw [d0] at w
  have lo0 := H.lf.o0
  refine L 36 0 46 1 0 _ _ (by omega) (Or.inl rfl) ⟨by omega, by omega, by omega, fun q => ?_⟩ (fun g g1 g2 g3 g4 g5 g6 g7 => by rw [updR_n g2, updR_n g1]) (by rw [updR_n (by decide), updR_s]; exact cuB0) (by rw [updR_s]; exact cuB0) (by rw [updR_n (by decide), updR_s]; have z : (((0 : Int)) : Rat) = 0 := rfl; rw [z]; grind) (by rw [updR_s]; have z : (((0 : Int)) : Rat) = 0 := rfl; rw [z]; grind) (by have z : (((0 : Int)) : Rat) = 0 := rfl; have z2 : ((((0 : Nat) : Int)) : Rat) = 0 := rfl; rw [z, z2]; grind) w
  have mo := H.lf.mono 0 (by omega)
  refine ⟨by rw [Nat.sub_self]; omega, ?_, fun _ => Or.inl (by rw [Nat.sub_self]; omega)⟩
  show (((0 : Int)) : Rat) ≤ OuQ (S 46) (F 52) 1
  unfold OuQ
  by_cases z : (S 46).e = 1 ∧ 1 = (S 46).N
  · rw [if_pos z]
    have f := H.lf.fin z.1
    have f4 := f.2.2.2.1.1
    rw [f.2.1, ← z.2, Nat.sub_self, lo0] at f4
    exact f4
  · rw [if_neg z]
    exact Rat.intCast_le_intCast.mpr (by rw [lo0] at mo; exact mo)
end STL
