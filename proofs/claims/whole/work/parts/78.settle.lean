/-! THE CLASS'S AREAS SETTLED -/
/-- what a piece adds to cut, to fill; that it is one -/
def pC (gn : Nat) (go gl : Nat → Int) (S : Nat → Sq) (b i : Nat) (x y : Rat) : Rat := pcC (gapQ gn go gl (sgO b) (S b) i x) (gapQ gn go gl (sgO b) (S b) i y) (y - x)
def pF (gn : Nat) (go gl : Nat → Int) (S : Nat → Sq) (b i : Nat) (x y : Rat) : Rat := pcF (gapQ gn go gl (sgO b) (S b) i x) (gapQ gn go gl (sgO b) (S b) i y) (y - x)
def p1 : Nat → Nat → Rat → Rat → Rat := fun _ => one3
def keepA (F F' : Nat → Rat) : Prop := ∀ g, g ≠ 96 → g ≠ 101 → g ≠ 106 → g ≠ 111 → g ≠ 116 → g ≠ 121 → g ≠ 126 → F' g = F g
theorem numP {q : Rat} : 0 < q ↔ 0 < q.num :=
  ⟨fun h => by
    have a := Rat.num_nonneg.mpr (Rat.le_of_lt h)
    have b : q.num ≠ 0 := fun z => by rw [Rat.num_eq_zero.mp z] at h; exact absurd h Rat.lt_irrefl
    omega, fun h => by
    have a : 0 ≤ q := Rat.num_nonneg.mp (by omega)
    refine Rat.lt_of_le_of_ne a (fun z => ?_)
    rw [← z] at h
    exact absurd h (by decide)⟩
theorem sign_pos {q : Rat} : (0 < q ↔ 0 < q.num.sign) ∧ (q < 0 ↔ q.num.sign < 0) := by
  constructor
  · rw [numP]
    exact Int.sign_pos_iff.symm
  · have e : q < 0 ↔ 0 < -q := by grind
    rw [e, numP, Rat.neg_num]
    have := Int.sign_neg_iff (x := q.num)
    omega
section STL
variable {X : Nat × (Nat → Int32)} {h0 h h' : am_H} {gn ws as b i : Nat} {go gl tk : Nat → Int} {wk ch st ix pl x : Int} {S : Nat → Sq} {F : Nat → Rat} {W : Nat → Int}
/-- the share told in 121 is added -/
def shQ (F F' : Nat → Rat) : Prop := F' 96 = (if 0 < F 121 then F 96 + F 121 else F 96) ∧ F' 101 = (if 0 < F 121 then F 101 else F 101 + -F 121) ∧ ∀ g, g ≠ 96 → g ≠ 101 → F' g = F g
theorem gw_addShare {d : Nat} (w : GW h0 (h) gn go gl wk ch tk S ws st as ix pl F W) (q1 : qB 97 (F 96)) (q2 : qB 97 (F 101)) (q3 : qB 15 (F 121)) (f1 : 0 < F 121 → qB 99 (F 96 + F 121)) (f2 : ¬ 0 < F 121 → qB 99 (F 101 + -F 121)) : am_c X (d + 5) 132 [.ref 95] h (fun r h' => r = none ∧ ∃ F', GW h0 (h') gn go gl wk ch tk S ws st as ix pl (F') W ∧ shQ F F') := by
  have sp := sign_pos (q := F 121)
  have si : -1 ≤ (F 121).num.sign ∧ (F 121).num.sign ≤ 1 := by
    rcases Int.lt_trichotomy (F 121).num 0 with c | c | c
    · rw [Int.sign_eq_neg_one_of_neg c]; decide
    · rw [c]; decide
    · rw [Int.sign_eq_one_of_pos c]; decide
  have caa := w.aa
  have ca0 := w.arc
  unfold arCell at ca0
  have c106 := (w.ff _ mF106).1
  have c111 := (w.ff _ mF111).1
  have c121 := (w.ff _ mF121).1
  try dsimp only at c106 c111 c121
  refine am_c.of (Nat.le_of_ble_eq_true rfl) ?_
  show am_w _ _ _ (_, [_, _], _, _) _
  by_cases c : 0 < F 121
  · have s1 : (F 121).num.sign = 1 := by have := sp.1.mp c; omega
    try dsimp only at c106 c111 c121
    refine wr_aload_n rfl rfl rfl ?_
    refine wr_get (ci := 10) (f := 12) rfl rfl rfl (by assumption) rfl ?_
    refine wr_get (ci := 8) (f := 0) rfl rfl rfl (by assumption) rfl ?_
    refine wr_if_le rfl rfl rfl (by omega) (fun c7 => by exfalso; omega) (fun c7 => ?_)
    refine wr_aload_n rfl rfl rfl ?_
    refine wr_get (ci := 10) (f := 3) rfl rfl rfl (by assumption) rfl ?_
    refine wr_goto rfl rfl ?_
    refine wr_astore_n (ls' := [_, _]) rfl rfl (Nat.le_of_ble_eq_true rfl) rfl ?_
    refine wr_aload_n rfl rfl rfl ?_
    refine wr_get (ci := 10) (f := 2) rfl rfl rfl (by assumption) rfl ?_
    refine wr_aload_n rfl rfl rfl ?_
    refine wr_aload_n rfl rfl rfl ?_
    refine wr_aload_n rfl rfl rfl ?_
    refine wr_get (ci := 10) (f := 12) rfl rfl rfl (by assumption) rfl ?_
    refine wr_aload_n rfl rfl rfl ?_
    refine wr_get (ci := 10) (f := 12) rfl rfl rfl (by assumption) rfl ?_
    refine wr_get (ci := 8) (f := 0) rfl rfl rfl (by assumption) rfl ?_
    refine wr_cv4 (k' := 85) (ci := 4) rfl rfl rfl rfl (by assumption) rfl rfl (gw_add w mF96 mF96 mF121 (by omega) rfl rfl (by rw [s1]; decide) q1 q3 (by decide) (f1 c)) (fun r h2 q => ?_)
    obtain ⟨rfl, w⟩ := q
    dsimp only [Option.toList, List.cons_append, List.nil_append]
    have caa := w.aa
    have ca0 := w.arc
    unfold arCell at ca0
    have c106 := (w.ff _ mF106).1
    have c111 := (w.ff _ mF111).1
    have c121 := (w.ff _ mF121).1
    refine wr_vret rfl rfl ?_
    exact ⟨rfl, _, w, by rw [updR_s, if_pos c], by rw [updR_n (by decide), if_pos c], fun g g1 g2 => updR_n g1⟩
  · have s1 : (F 121).num.sign ≤ 0 := by
      refine Decidable.byContradiction fun q => c (sp.1.mpr (by omega))
    have e3 : (-F 121).num.sign = (F 121).num.sign * (F 121).num.sign := by
      rw [Rat.neg_num, Int.sign_neg]
      rcases (show (F 121).num.sign = 0 ∨ (F 121).num.sign = -1 by omega) with e | e <;> rw [e] <;> rfl
    try dsimp only at c106 c111 c121
    refine wr_aload_n rfl rfl rfl ?_
    refine wr_get (ci := 10) (f := 12) rfl rfl rfl (by assumption) rfl ?_
    refine wr_get (ci := 8) (f := 0) rfl rfl rfl (by assumption) rfl ?_
    refine wr_if_le rfl rfl rfl (by omega) (fun c7 => ?_) (fun c7 => by exfalso; omega)
    refine wr_aload_n rfl rfl rfl ?_
    refine wr_get (ci := 10) (f := 4) rfl rfl rfl (by assumption) rfl ?_
    refine wr_astore_n (ls' := [_, _]) rfl rfl (Nat.le_of_ble_eq_true rfl) rfl ?_
    refine wr_aload_n rfl rfl rfl ?_
    refine wr_get (ci := 10) (f := 2) rfl rfl rfl (by assumption) rfl ?_
    refine wr_aload_n rfl rfl rfl ?_
    refine wr_aload_n rfl rfl rfl ?_
    refine wr_aload_n rfl rfl rfl ?_
    refine wr_get (ci := 10) (f := 12) rfl rfl rfl (by assumption) rfl ?_
    refine wr_aload_n rfl rfl rfl ?_
    refine wr_get (ci := 10) (f := 12) rfl rfl rfl (by assumption) rfl ?_
    refine wr_get (ci := 8) (f := 0) rfl rfl rfl (by assumption) rfl ?_
    refine wr_cv4 (k' := 85) (ci := 4) rfl rfl rfl rfl (by assumption) rfl rfl (gw_add w mF101 mF101 mF121 (by omega) (Rat.neg_den _) (by rw [Rat.neg_num, Int.natAbs_neg]) e3 q2 q3 (by decide) (f2 c)) (fun r h2 q => ?_)
    obtain ⟨rfl, w⟩ := q
    dsimp only [Option.toList, List.cons_append, List.nil_append]
    have caa := w.aa
    have ca0 := w.arc
    unfold arCell at ca0
    have c106 := (w.ff _ mF106).1
    have c111 := (w.ff _ mF111).1
    have c121 := (w.ff _ mF121).1
    refine wr_vret rfl rfl ?_
    exact ⟨rfl, _, w, by rw [updR_n (by decide), if_neg c], by rw [updR_s, if_neg c], fun g g1 g2 => updR_n g2⟩
theorem gw_trap {d : Nat} (w : GW h0 (h) gn go gl wk ch tk S ws st as ix pl F W) (a1 : qB 2 (F 106)) (a2 : qB 2 (F 111)) (a3 : qB 6 (F 116)) (q1 : qB 97 (F 96)) (q2 : qB 97 (F 101)) (f1 : 0 < (F 106 + F 111) * F 116 → qB 99 (F 96 + (F 106 + F 111) * F 116)) (f2 : ¬ 0 < (F 106 + F 111) * F 116 → qB 99 (F 101 + -((F 106 + F 111) * F 116))) : am_c X (d + 6) 133 [.ref 95] h (fun r h' => r = none ∧ ∃ F', GW h0 (h') gn go gl wk ch tk S ws st as ix pl (F') W ∧ F' 96 = (if 0 < (F 106 + F 111) * F 116 then F 96 + (F 106 + F 111) * F 116 else F 96) ∧ F' 101 = (if 0 < (F 106 + F 111) * F 116 then F 101 else F 101 + -((F 106 + F 111) * F 116)) ∧ ∀ g, g ≠ 96 → g ≠ 101 → g ≠ 121 → F' g = F g) := by
  have caa := w.aa
  have ca0 := w.arc
  unfold arCell at ca0
  have c106 := (w.ff _ mF106).1
  have c111 := (w.ff _ mF111).1
  have c121 := (w.ff _ mF121).1
  try dsimp only at c106 c111 c121
  try dsimp only at c106 c111 c121
  refine am_c.of (Nat.le_of_ble_eq_true rfl) ?_
  show am_w _ _ _ (_, [_], _, _) _
  refine wr_aload_n rfl rfl rfl ?_
  refine wr_get (ci := 10) (f := 2) rfl rfl rfl (by assumption) rfl ?_
  refine wr_aload_n rfl rfl rfl ?_
  refine wr_get (ci := 10) (f := 12) rfl rfl rfl (by assumption) rfl ?_
  refine wr_aload_n rfl rfl rfl ?_
  refine wr_get (ci := 10) (f := 9) rfl rfl rfl (by assumption) rfl ?_
  refine wr_aload_n rfl rfl rfl ?_
  refine wr_get (ci := 10) (f := 10) rfl rfl rfl (by assumption) rfl ?_
  refine wr_iconst rfl rfl ?_
  refine wr_cv4 (k' := 85) (ci := 4) rfl rfl rfl rfl (by assumption) rfl rfl (gw_sum w mF121 mF106 mF111 a1 a2 (by decide)) (fun r h2 q => ?_)
  obtain ⟨rfl, w⟩ := q
  dsimp only [Option.toList, List.cons_append, List.nil_append]
  have caa := w.aa
  have ca0 := w.arc
  unfold arCell at ca0
  have c106 := (w.ff _ mF106).1
  have c111 := (w.ff _ mF111).1
  have c121 := (w.ff _ mF121).1
  obtain ⟨F1, e1⟩ : ∃ z, z = updR F 121 (F 106 + F 111) := ⟨_, rfl⟩
  rw [← e1] at w
  have b1 : qB 5 (F1 121) := by rw [e1, updR_s]; exact (a1.add a2).mono (by decide)
  have b2 : qB 6 (F1 116) := by rw [e1, updR_n (by decide)]; exact a3
  try dsimp only at c106 c111 c121
  refine wr_aload_n rfl rfl rfl ?_
  refine wr_get (ci := 10) (f := 2) rfl rfl rfl (by assumption) rfl ?_
  refine wr_aload_n rfl rfl rfl ?_
  refine wr_get (ci := 10) (f := 12) rfl rfl rfl (by assumption) rfl ?_
  refine wr_aload_n rfl rfl rfl ?_
  refine wr_get (ci := 10) (f := 12) rfl rfl rfl (by assumption) rfl ?_
  refine wr_aload_n rfl rfl rfl ?_
  refine wr_get (ci := 10) (f := 11) rfl rfl rfl (by assumption) rfl ?_
  refine wr_iconst rfl rfl ?_
  refine wr_cv4 (k' := 101) (ci := 4) rfl rfl rfl rfl (by assumption) rfl rfl (gw_mul w mF121 mF121 mF116 b1 b2 (by decide)) (fun r h2 q => ?_)
  obtain ⟨rfl, w⟩ := q
  dsimp only [Option.toList, List.cons_append, List.nil_append]
  have caa := w.aa
  have ca0 := w.arc
  unfold arCell at ca0
  have c106 := (w.ff _ mF106).1
  have c111 := (w.ff _ mF111).1
  have c121 := (w.ff _ mF121).1
  refine wr_aload_n rfl rfl rfl ?_
  obtain ⟨F2, e2⟩ : ∃ z, z = updR F1 121 (F1 121 * F1 116) := ⟨_, rfl⟩
  rw [← e2] at w
  have v : F2 121 = (F 106 + F 111) * F 116 := by rw [e2, updR_s, e1, updR_s, updR_n (by decide)]
  have v96 : F2 96 = F 96 := by rw [e2, updR_n (by decide), e1, updR_n (by decide)]
  have v101 : F2 101 = F 101 := by rw [e2, updR_n (by decide), e1, updR_n (by decide)]
  refine wr_cv0 (k' := 132) (ci := 10) rfl rfl rfl rfl (by assumption) rfl rfl (gw_addShare w (v96.symm ▸ q1) (v101.symm ▸ q2) (by rw [e2, updR_s]; exact (b1.mul b2).mono (by decide)) (by rw [v, v96]; exact f1) (by rw [v, v101]; exact f2)) (fun r h2 q => ?_)
  obtain ⟨rfl, F3, w, s1, s2, s3⟩ := q
  dsimp only [Option.toList, List.nil_append]
  refine wr_vret rfl rfl ?_
  rw [v, v96] at s1
  rw [v, v101] at s2
  exact ⟨rfl, F3, w, s1, s2, fun g g1 g2 g3 => by rw [s3 g g1 g2, e2, updR_n g3, e1, updR_n g3]⟩
theorem gw_tri {d p q0 : Nat} (w : GW h0 (h) gn go gl wk ch tk S ws st as ix pl F W) (hp : (p = 106 ∧ q0 = 111) ∨ (p = 111 ∧ q0 = 106)) (nz : F p - F q0 ≠ 0) (a1 : qB 2 (F p)) (a2 : qB 2 (F q0)) (a3 : qB 6 (F 116)) (q1 : qB 97 (F 96)) (q2 : qB 97 (F 101)) (f1 : 0 < F p * F p * F 116 / (F p - F q0) → qB 99 (F 96 + F p * F p * F 116 / (F p - F q0))) (f2 : ¬ 0 < F p * F p * F 116 / (F p - F q0) → qB 99 (F 101 + -(F p * F p * F 116 / (F p - F q0)))) : am_c X (d + 6) 131 [.ref 95, .ref p, .ref q0] h (fun r h' => r = none ∧ ∃ F', GW h0 (h') gn go gl wk ch tk S ws st as ix pl (F') W ∧ F' 96 = (if 0 < F p * F p * F 116 / (F p - F q0) then F 96 + F p * F p * F 116 / (F p - F q0) else F 96) ∧ F' 101 = (if 0 < F p * F p * F 116 / (F p - F q0) then F 101 else F 101 + -(F p * F p * F 116 / (F p - F q0))) ∧ ∀ g, g ≠ 96 → g ≠ 101 → g ≠ 121 → g ≠ 126 → F' g = F g) := by
  have mp : (p, 16) ∈ LF := by rcases hp with ⟨rfl, rfl⟩ | ⟨rfl, rfl⟩ <;> decide
  have mq : (q0, 16) ∈ LF := by rcases hp with ⟨rfl, rfl⟩ | ⟨rfl, rfl⟩ <;> decide
  have pn : p ≠ 126 ∧ q0 ≠ 126 ∧ p ≠ 121 ∧ q0 ≠ 121 := by omega
  have caa := w.aa
  have ca0 := w.arc
  unfold arCell at ca0
  have c106 := (w.ff _ mF106).1
  have c111 := (w.ff _ mF111).1
  have c121 := (w.ff _ mF121).1
  try dsimp only at c106 c111 c121
  try dsimp only at c106 c111 c121
  refine am_c.of (Nat.le_of_ble_eq_true rfl) ?_
  show am_w _ _ _ (_, [_, _, _], _, _) _
  refine wr_aload_n rfl rfl rfl ?_
  refine wr_get (ci := 10) (f := 2) rfl rfl rfl (by assumption) rfl ?_
  refine wr_aload_n rfl rfl rfl ?_
  refine wr_get (ci := 10) (f := 13) rfl rfl rfl (by assumption) rfl ?_
  refine wr_aload_n rfl rfl rfl ?_
  refine wr_aload_n rfl rfl rfl ?_
  refine wr_iconst rfl rfl ?_
  refine wr_cv4 (k' := 85) (ci := 4) rfl rfl rfl rfl (by assumption) rfl rfl (gw_dif w mF126 mp mq a1 a2 (by decide)) (fun r h2 q => ?_)
  obtain ⟨rfl, w⟩ := q
  dsimp only [Option.toList, List.cons_append, List.nil_append]
  have caa := w.aa
  have ca0 := w.arc
  unfold arCell at ca0
  have c106 := (w.ff _ mF106).1
  have c111 := (w.ff _ mF111).1
  have c121 := (w.ff _ mF121).1
  obtain ⟨F1, e1⟩ : ∃ z, z = updR F 126 (F p - F q0) := ⟨_, rfl⟩
  rw [← e1] at w
  have p1' : F1 p = F p := by rw [e1, updR_n pn.1]
  have b126 : qB 5 (F1 126) := by rw [e1, updR_s, Rat.sub_eq_add_neg]; exact (qB.add a1 a2.neg).mono (by decide)
  try dsimp only at c106 c111 c121
  refine wr_aload_n rfl rfl rfl ?_
  refine wr_get (ci := 10) (f := 2) rfl rfl rfl (by assumption) rfl ?_
  refine wr_aload_n rfl rfl rfl ?_
  refine wr_get (ci := 10) (f := 12) rfl rfl rfl (by assumption) rfl ?_
  refine wr_aload_n rfl rfl rfl ?_
  refine wr_aload_n rfl rfl rfl ?_
  refine wr_iconst rfl rfl ?_
  refine wr_cv4 (k' := 101) (ci := 4) rfl rfl rfl rfl (by assumption) rfl rfl (gw_mul w mF121 mp mp (p1'.symm ▸ a1) (p1'.symm ▸ a1) (by decide)) (fun r h2 q => ?_)
  obtain ⟨rfl, w⟩ := q
  dsimp only [Option.toList, List.cons_append, List.nil_append]
  have caa := w.aa
  have ca0 := w.arc
  unfold arCell at ca0
  have c106 := (w.ff _ mF106).1
  have c111 := (w.ff _ mF111).1
  have c121 := (w.ff _ mF121).1
  obtain ⟨F2, e2⟩ : ∃ z, z = updR F1 121 (F1 p * F1 p) := ⟨_, rfl⟩
  rw [← e2] at w
  have c121' : qB 4 (F2 121) := by rw [e2, updR_s, p1']; exact (a1.mul a1).mono (by decide)
  have c116 : qB 6 (F2 116) := by rw [e2, updR_n (by decide), e1, updR_n (by decide)]; exact a3
  try dsimp only at c106 c111 c121
  refine wr_aload_n rfl rfl rfl ?_
  refine wr_get (ci := 10) (f := 2) rfl rfl rfl (by assumption) rfl ?_
  refine wr_aload_n rfl rfl rfl ?_
  refine wr_get (ci := 10) (f := 12) rfl rfl rfl (by assumption) rfl ?_
  refine wr_aload_n rfl rfl rfl ?_
  refine wr_get (ci := 10) (f := 12) rfl rfl rfl (by assumption) rfl ?_
  refine wr_aload_n rfl rfl rfl ?_
  refine wr_get (ci := 10) (f := 11) rfl rfl rfl (by assumption) rfl ?_
  refine wr_iconst rfl rfl ?_
  refine wr_cv4 (k' := 101) (ci := 4) rfl rfl rfl rfl (by assumption) rfl rfl (gw_mul w mF121 mF121 mF116 c121' c116 (by decide)) (fun r h2 q => ?_)
  obtain ⟨rfl, w⟩ := q
  dsimp only [Option.toList, List.cons_append, List.nil_append]
  have caa := w.aa
  have ca0 := w.arc
  unfold arCell at ca0
  have c106 := (w.ff _ mF106).1
  have c111 := (w.ff _ mF111).1
  have c121 := (w.ff _ mF121).1
  obtain ⟨F3, e3⟩ : ∃ z, z = updR F2 121 (F2 121 * F2 116) := ⟨_, rfl⟩
  rw [← e3] at w
  have d121 : qB 10 (F3 121) := by rw [e3, updR_s]; exact (c121'.mul c116).mono (by decide)
  have v126 : F3 126 = F p - F q0 := by rw [e3, updR_n (by decide), e2, updR_n (by decide), e1, updR_s]
  have d126 : qB 5 (F3 126) := by rw [e3, updR_n (by decide), e2, updR_n (by decide)]; exact b126
  try dsimp only at c106 c111 c121
  refine wr_aload_n rfl rfl rfl ?_
  refine wr_get (ci := 10) (f := 2) rfl rfl rfl (by assumption) rfl ?_
  refine wr_aload_n rfl rfl rfl ?_
  refine wr_get (ci := 10) (f := 12) rfl rfl rfl (by assumption) rfl ?_
  refine wr_aload_n rfl rfl rfl ?_
  refine wr_get (ci := 10) (f := 12) rfl rfl rfl (by assumption) rfl ?_
  refine wr_aload_n rfl rfl rfl ?_
  refine wr_get (ci := 10) (f := 13) rfl rfl rfl (by assumption) rfl ?_
  refine wr_iconst rfl rfl ?_
  refine wr_cv4 (k' := 101) (ci := 4) rfl rfl rfl rfl (by assumption) rfl rfl (gw_quo w mF121 mF121 mF126 (by rw [v126]; exact nz) d121 d126 (by decide)) (fun r h2 q => ?_)
  obtain ⟨rfl, w⟩ := q
  dsimp only [Option.toList, List.cons_append, List.nil_append]
  have caa := w.aa
  have ca0 := w.arc
  unfold arCell at ca0
  have c106 := (w.ff _ mF106).1
  have c111 := (w.ff _ mF111).1
  have c121 := (w.ff _ mF121).1
  refine wr_aload_n rfl rfl rfl ?_
  obtain ⟨F4, e4⟩ : ∃ z, z = updR F3 121 (F3 121 / F3 126) := ⟨_, rfl⟩
  rw [← e4] at w
  have v : F4 121 = F p * F p * F 116 / (F p - F q0) := by
    rw [e4, updR_s, v126, e3, updR_s, e2, updR_s, updR_n (by decide), p1', e1, updR_n (by decide)]
  have v96 : F4 96 = F 96 := by rw [e4, updR_n (by decide), e3, updR_n (by decide), e2, updR_n (by decide), e1, updR_n (by decide)]
  have v101 : F4 101 = F 101 := by rw [e4, updR_n (by decide), e3, updR_n (by decide), e2, updR_n (by decide), e1, updR_n (by decide)]
  have q121 : qB 15 (F4 121) := by
    rw [e4, updR_s, Rat.div_def]
    exact (d121.mul (d126.inv (fun z => (by rw [v126] at z; exact nz (Rat.num_eq_zero.mp z))))).mono (by decide)
  refine wr_cv0 (k' := 132) (ci := 10) rfl rfl rfl rfl (by assumption) rfl rfl (gw_addShare w (v96.symm ▸ q1) (v101.symm ▸ q2) q121 (by rw [v, v96]; exact f1) (by rw [v, v101]; exact f2)) (fun r h2 q => ?_)
  obtain ⟨rfl, F5, w, s1, s2, s3⟩ := q
  dsimp only [Option.toList, List.nil_append]
  refine wr_vret rfl rfl ?_
  rw [v, v96] at s1
  rw [v, v101] at s2
  exact ⟨rfl, F5, w, s1, s2, fun g g1 g2 g3 g4 => by rw [s3 g g1 g2, e4, updR_n g3, e3, updR_n g3, e2, updR_n g3, e1, updR_n g4]⟩
end STL
