/-! THE REFERENCE'S AREAS: the sum -/
section RTD
variable {X : Nat × (Nat → Int32)} {h0 h h' : am_H} {o o' : Nat → Int} {A A' : Nat → Nat → Int} {F F0 F' : Nat → Rat} {n : Nat} {off lev : Nat → Int} {U Y : Nat → Rat}
/-- the gap between ground and the line from corner k on, corners (U, Y) -/
def gpQ (n : Nat) (off lev : Nat → Int) (U Y : Nat → Rat) (k : Nat) (x : Rat) : Rat := GrQ n off lev x - lnQ (U k) (U (k + 1)) (Y k) (Y (k + 1)) x
def pkC (n : Nat) (off lev : Nat → Int) (U Y : Nat → Rat) (k : Nat) (x y : Rat) : Rat := pcC (gpQ n off lev U Y k x) (gpQ n off lev U Y k y) (y - x)
def pkF (n : Nat) (off lev : Nat → Int) (U Y : Nat → Rat) (k : Nat) (x y : Rat) : Rat := pcF (gpQ n off lev U Y k x) (gpQ n off lev U Y k y) (y - x)
def scS (n : Nat) (off : Nat → Int) (U : Nat → Rat) (f : Nat → Rat → Rat → Rat) (k : Nat) : Rat := if U k < U (k + 1) then coF off (f k) (U (k + 1)) n 0 (U k) else 0
def arS (f : Nat → Rat) : Nat → Rat
  | 0 => 0
  | m + 1 => arS f m + f m
def bkU (n : Nat) (off : Nat → Int) (u x : Rat) : Prop := x = u ∨ ∃ j, j < n ∧ x = (off j : Rat)
/-- what holds of a section's corners -/
def ScH (n : Nat) (off lev : Nat → Int) (K : Nat) (U Y : Nat → Rat) : Prop := (∀ k, k < K → qB 3 (U k) ∧ qB 14 (Y k)) ∧ (∀ k, k + 1 < K → U k ≤ U (k + 1)) ∧ ∀ k, k + 1 < K → U k < U (k + 1) → ∀ x y : Rat, bkU n off (U k) x → bkU n off (U (k + 1)) y → U k ≤ x → x < y → y ≤ U (k + 1) → (∀ j, j < n → ¬ (x < (off j : Rat) ∧ (off j : Rat) < y)) → (qB 2 (gpQ n off lev U Y k x) ∧ qB 2 (gpQ n off lev U Y k y)) ∧ shB (pkC n off lev U Y k x y) ∧ shB (pkF n off lev U Y k x y)
theorem q3_off (ok : okG n off lev) (j : Nat) : qB 3 ((off j : Int) : Rat) := by
  have := ok.2.1 j
  rw [← div1Q]
  exact qB.long (by omega) (by decide)
theorem gkQ_le {x : Rat} {j : Nat} (h : x < (off j : Rat)) : gkQ n off x ≤ j := by
  refine Decidable.byContradiction fun c => ?_
  have := (gkQ_spec n off x).2.1 j (by omega)
  exact absurd h (Rat.not_lt.mpr this)
theorem gkQ_ge (ok : okG n off lev) {j : Nat} (hj : j < n) {x : Rat} (h : (off j : Rat) ≤ x) : j + 1 ≤ gkQ n off x := by
  refine Decidable.byContradiction fun c => ?_
  have s := gkQ_spec n off x
  have l : gkQ n off x ≤ j := by omega
  have t := s.2.2 (by omega)
  have : (off (gkQ n off x) : Rat) ≤ off j := Rat.intCast_le_intCast.mpr (off_le ok l hj)
  exact t (Rat.le_trans this h)
theorem gkQ_mono (ok : okG n off lev) {x y : Rat} (h : x ≤ y) : gkQ n off x ≤ gkQ n off y := by
  by_cases c : gkQ n off x = 0
  · omega
  · have s := gkQ_spec n off x
    have := s.2.1 (gkQ n off x - 1) (by omega)
    have := gkQ_ge ok (j := gkQ n off x - 1) (by omega) (Rat.le_trans this h)
    omega
theorem cuB.mono {c e : Nat} {q : Rat} (h : cuB c q) (hc : c ≤ e) : cuB e q := by
  induction e with
  | zero => rw [show c = 0 by omega] at h; exact h
  | succ e ih =>
    by_cases q : c = e + 1
    · subst q; exact h
    · exact (ih (by omega)).zero
/-- the inner way: the points of the ground behind point j -/
theorem rr_areaI {d k K : Nat} {TC TF : Rat} {Q : Option Value → am_H → Prop} (g : RG n off lev o A) (ok : okG n off lev) (H : ScH n off lev K U Y) (hK : K ≤ 25) (hk : k + 1 < K) (lt : U k < U (k + 1)) (kU : ∀ i, i < K → F0 i = U i ∧ F0 (26 + i) = Y i)
    (KK : ∀ (F' : Nat → Rat) (h' : am_H) (c : Nat) (y : Value), FW h0 h' o F' A → F' 52 = TC → F' 53 = TF → cuB c TC → cuB c TF → c ≤ k + 1 + gkQ n off (U (k + 1)) → (∀ g, g ≠ 52 → g ≠ 53 → g < 94 → F' g = F0 g) → am_w X (d + 9) 185 (136, [.ref 164, .int (iI k), y], [], h') Q) : ∀ (m j : Nat) (F1 : Nat → Rat) (h : am_H) (c : Nat) (x : Rat), j + m = n → FW h0 h o F1 A → F1 99 = x → bkU n off (U k) x → U k ≤ x → x < U (k + 1) → (∀ i, i < j → (off i : Rat) ≤ x ∨ U (k + 1) ≤ (off i : Rat)) → F1 52 + coF off (pkC n off lev U Y k) (U (k + 1)) m j x = TC → F1 53 + coF off (pkF n off lev U Y k) (U (k + 1)) m j x = TF → cuB c (F1 52) → cuB c (F1 53) → c ≤ k + gkQ n off x → (∀ g, g ≠ 52 → g ≠ 53 → g < 94 → F1 g = F0 g) → am_w X (d + 9) 185 (54, [.ref 164, .int (iI k), .int (iI j)], [], h) Q := by
  have n12 := ok.1
  have e19 := g.1
  have eG := g.2
  have e0 : (0 : Int) + (k : Int) = (k : Int) := by omega
  have e1k : (k : Int) + 1 = ((k + 1 : Nat) : Int) := by omega
  have qk := H.1 k (by omega)
  have qk1 := H.1 (k + 1) hk
  have kl : k ≤ 23 := by omega
  intro m
  induction m with
  | zero =>
    intro j F1 h c x hj w v99 bx x1 x2 pts tc tf c1 c2 cc kp
    have cO := w.cO
    have jn : j = n := by omega
    have gb := (gkQ_spec n off x).1
    have gm := gkQ_mono ok (Rat.le_of_lt x2)
    have vk : ∀ i, i < K → F1 i = U i ∧ F1 (26 + i) = Y i := fun i hi => by rw [kp i (by omega) (by omega) (by omega), kp (26 + i) (by omega) (by omega) (by omega)]; exact kU i hi
    have qx : qB 3 x := by
      rcases bx with e | ⟨i, -, e⟩
      · rw [e]; exact qk.1
      · rw [e]; exact q3_off ok i
    have PG := H.2.2 k hk lt x (U (k + 1)) bx (Or.inl rfl) x1 x2 (Rat.le_refl) (fun i hi q => by
      rcases pts i (by omega) with a | a
      · exact absurd q.1 (Rat.not_lt.mpr a)
      · exact absurd q.2 (Rat.not_lt.mpr a))
    refine wr_iload_n rfl rfl rfl ?_
    refine wr_aload_n rfl rfl rfl ?_
    refine wr_get (ci := 12) (f := 19) rfl rfl rfl (by assumption) rfl ?_
    rw [e19]
    refine wr_icmp_ge rfl rfl rfl (by omega) (by omega) (fun c59 => ?_) (fun c59 => by exfalso; omega)
    refine wr_aload_n rfl rfl rfl ?_
    refine wr_bipush rfl rfl (by decide) ?_
    refine wr_iconst rfl rfl ?_
    refine wr_iload_n rfl rfl rfl ?_
    refine wr_iadd rfl rfl ?_
    rw [e0]
    refine wr_iconst rfl rfl ?_
    refine wr_iadd rfl rfl ?_
    rw [e1k]
    refine wr_cv2 (k' := 184) (ci := 12) rfl rfl rfl rfl (by assumption) rfl rfl (fw_copy (f := 100) (g := k + 1) w (by decide) (by omega) (by omega)) (fun r h2 q => ?_)
    obtain ⟨rfl, w⟩ := q
    obtain ⟨F2, w, s2, m2⟩ := ff_ex w
    rw [(vk (k + 1) hk).1] at s2
    have cO := w.cO
    refine wr_aload_n rfl rfl rfl ?_
    refine wr_iload_n rfl rfl rfl ?_
    refine wr_cv1 (k' := 187) (ci := 12) rfl rfl rfl rfl (by assumption) rfl rfl (rr_piece (d := d) (k := k) (a := U k) (b := U (k + 1)) (u := Y k) (v := Y (k + 1)) (x := x) (y := U (k + 1)) w g ok kl (by rw [m2 _ (by omega)]; exact (vk k (by omega)).1) (by rw [m2 _ (by omega)]; exact (vk (k + 1) hk).1) (by rw [m2 _ (by omega)]; exact (vk k (by omega)).2) (by rw [m2 _ (by omega), show 26 + k + 1 = 26 + (k + 1) by omega]; exact (vk (k + 1) hk).2) (by rw [m2 _ (by decide)]; exact v99) s2 qk.1 qk1.1 qk.2 qk1.2 qx qk1.1 lt x2 rfl rfl PG.1.1 PG.1.2 (by rw [m2 _ (by decide)]; exact c1.sz (by omega)) (by rw [m2 _ (by decide)]; exact c2.sz (by omega))) (fun r h2 q => ?_)
    obtain ⟨rfl, F3, w, s52, s53, m3⟩ := q
    rw [m2 52 (by decide)] at s52
    rw [m2 53 (by decide)] at s53
    have d1 := c1.add PG.2.1
    have d2 := c2.add PG.2.2
    have t52 : F3 52 = TC := by rw [s52, ← tc]; rfl
    have t53 : F3 53 = TF := by rw [s53, ← tf]; rfl
    have u52 : F1 52 + pkC n off lev U Y k x (U (k + 1)) = TC := tc
    have u53 : F1 53 + pkF n off lev U Y k x (U (k + 1)) = TF := tf
    rw [u52] at d1
    rw [u53] at d2
    exact KK F3 _ (c + 1) _ w t52 t53 d1 d2 (by omega) (fun g a b e => by rw [m3 g a b (by omega), m2 g (by omega), kp g a b e])
  | succ m ih =>
    intro j F1 h c x hj w v99 bx x1 x2 pts tc tf c1 c2 cc kp
    have cO := w.cO
    have cA := w.arr (p := 175) (n := 12) (by decide) (by decide)
    have gb := (gkQ_spec n off x).1
    have ob := ok.2.1 j
    have gj := (eG j (by omega)).1
    have vk : ∀ i, i < K → F1 i = U i ∧ F1 (26 + i) = Y i := fun i hi => by rw [kp i (by omega) (by omega) (by omega), kp (26 + i) (by omega) (by omega) (by omega)]; exact kU i hi
    have qx : qB 3 x := by
      rcases bx with e | ⟨i, -, e⟩
      · rw [e]; exact qk.1
      · rw [e]; exact q3_off ok i
    have qj := q3_off ok j
    refine wr_iload_n rfl rfl rfl ?_
    refine wr_aload_n rfl rfl rfl ?_
    refine wr_get (ci := 12) (f := 19) rfl rfl rfl (by assumption) rfl ?_
    rw [e19]
    refine wr_icmp_ge rfl rfl rfl (by omega) (by omega) (fun c59 => by exfalso; omega) (fun c59 => ?_)
    refine wr_aload_n rfl rfl rfl ?_
    refine wr_bipush rfl rfl (by decide) ?_
    refine wr_aload_n rfl rfl rfl ?_
    refine wr_get (ci := 12) (f := 17) rfl rfl rfl (by assumption) rfl ?_
    refine wr_iload_n rfl rfl rfl ?_
    refine wr_iald rfl rfl (by assumption) (by omega) (by omega) ?_
    rw [Int.toNat_natCast, gj]
    refine wr_i2l rfl rfl (by omega) ?_
    refine wr_lconst (z := 1) rfl rfl rfl ?_
    refine wr_cv3 (k' := 140) (ci := 12) rfl rfl rfl rfl (by assumption) rfl rfl (fw_set (f := 100) (u := off j) (v := 1) w (by decide) (by omega) (by decide) (by decide)) (fun r h2 q => ?_)
    obtain ⟨rfl, w⟩ := q
    obtain ⟨F2, w, s2, m2⟩ := ff_ex w
    rw [div1Q] at s2
    have cO := w.cO
    have w99 : F2 99 = x := by rw [m2 99 (by decide), v99]
    refine wr_aload_n rfl rfl rfl ?_
    refine wr_bipush rfl rfl (by decide) ?_
    refine wr_bipush rfl rfl (by decide) ?_
    refine wr_cv2 (k' := 186) (ci := 12) rfl rfl rfl rfl (by assumption) rfl rfl (fw_compare (a := 100) (b := 99) (P := 3) (R := 3) w (by decide) (by decide) (by rw [s2]; exact qj) (by rw [w99]; exact qx) (by decide)) (fun r h2 q => ?_)
    obtain ⟨⟨ca, rfl, car, -, cag⟩, w⟩ := q
    rw [s2, w99] at cag
    have cO := w.cO
    have kp2 : ∀ g, g ≠ 52 → g ≠ 53 → g < 94 → F2 g = F0 g := fun g a b e => by rw [m2 g (by omega), kp g a b e]
    rw [coF] at tc tf
    rw [← m2 52 (by decide)] at tc c1
    rw [← m2 53 (by decide)] at tf c2
    by_cases i1 : x < (off j : Rat)
    · have ca0 := cag.mpr i1
      refine wr_if_le rfl rfl rfl (by omega) (fun c84 => by exfalso; omega) (fun c84 => ?_)
      refine wr_aload_n rfl rfl rfl ?_
      refine wr_bipush rfl rfl (by decide) ?_
      refine wr_iconst rfl rfl ?_
      refine wr_iload_n rfl rfl rfl ?_
      refine wr_iadd rfl rfl ?_
      rw [e0]
      refine wr_iconst rfl rfl ?_
      refine wr_iadd rfl rfl ?_
      rw [e1k]
      refine wr_cv2 (k' := 186) (ci := 12) rfl rfl rfl rfl (by assumption) rfl rfl (fw_compare (a := 100) (b := k + 1) (P := 3) (R := 3) w (by decide) (by omega) (by rw [s2]; exact qj) (by rw [m2 _ (by omega), (vk (k + 1) hk).1]; exact qk1.1) (by decide)) (fun r h2 q => ?_)
      obtain ⟨⟨cb, rfl, cbr, cbl, -⟩, w⟩ := q
      rw [s2, m2 _ (by omega), (vk (k + 1) hk).1] at cbl
      have cO := w.cO
      by_cases i2 : (off j : Rat) < U (k + 1)
      · have cb0 := cbl.mpr i2
        rw [if_pos ⟨i1, i2⟩] at tc tf
        have PG := H.2.2 k hk lt x (off j) bx (Or.inr ⟨j, by omega, rfl⟩) x1 i1 (Rat.le_of_lt i2) (fun i hi q => by
          by_cases ij : i < j
          · rcases pts i ij with a | a
            · exact absurd q.1 (Rat.not_lt.mpr a)
            · exact absurd q.2 (Rat.not_lt.mpr (Rat.le_trans (Rat.le_of_lt i2) a))
          · have : (off j : Rat) ≤ off i := Rat.intCast_le_intCast.mpr (off_le ok (by omega) hi)
            exact absurd q.2 (Rat.not_lt.mpr this))
        have gl := gkQ_le (n := n) i1
        have gg := gkQ_ge ok (show j < n by omega) (Rat.le_refl (a := (off j : Rat)))
        refine wr_if_ge rfl rfl rfl (by omega) (fun c98 => by exfalso; omega) (fun c98 => ?_)
        refine wr_aload_n rfl rfl rfl ?_
        refine wr_iload_n rfl rfl rfl ?_
        refine wr_cv1 (k' := 187) (ci := 12) rfl rfl rfl rfl (by assumption) rfl rfl (rr_piece (d := d) (k := k) (a := U k) (b := U (k + 1)) (u := Y k) (v := Y (k + 1)) (x := x) (y := (off j : Rat)) w g ok kl (by rw [m2 _ (by omega)]; exact (vk k (by omega)).1) (by rw [m2 _ (by omega)]; exact (vk (k + 1) hk).1) (by rw [m2 _ (by omega)]; exact (vk k (by omega)).2) (by rw [m2 _ (by omega), show 26 + k + 1 = 26 + (k + 1) by omega]; exact (vk (k + 1) hk).2) w99 s2 qk.1 qk1.1 qk.2 qk1.2 qx qj lt i1 rfl rfl PG.1.1 PG.1.2 (c1.sz (by omega)) (c2.sz (by omega))) (fun r h2 q => ?_)
        obtain ⟨rfl, F3, w, s52, s53, m3⟩ := q
        have cO := w.cO
        have d1 := c1.add PG.2.1
        have d2 := c2.add PG.2.2
        refine wr_aload_n rfl rfl rfl ?_
        refine wr_bipush rfl rfl (by decide) ?_
        refine wr_bipush rfl rfl (by decide) ?_
        refine wr_cv2 (k' := 184) (ci := 12) rfl rfl rfl rfl (by assumption) rfl rfl (fw_copy (f := 99) (g := 100) w (by decide) (by decide) (by decide)) (fun r h2 q => ?_)
        obtain ⟨rfl, w⟩ := q
        obtain ⟨F4, w, s4, m4⟩ := ff_ex w
        rw [m3 100 (by decide) (by decide) (by decide), s2] at s4
        have t52 : F4 52 = F2 52 + pkC n off lev U Y k x (off j) := by rw [m4 52 (by decide), s52]; rfl
        have t53 : F4 53 = F2 53 + pkF n off lev U Y k x (off j) := by rw [m4 53 (by decide), s53]; rfl
        have cO := w.cO
        refine wr_iinc (ls' := [_, _, _]) rfl rfl rfl rfl ?_
        refine wr_goto rfl rfl ?_
        refine ih (j + 1) F4 _ (c + 1) (off j) (by omega) w s4 (Or.inr ⟨j, by omega, rfl⟩) (Rat.le_trans x1 (Rat.le_of_lt i1)) i2 (fun i hi => ?_) ?_ ?_ (by rw [t52]; exact d1) (by rw [t53]; exact d2) (by omega) (fun g a b e => by rw [m4 g (by omega), m3 g a b (by omega), kp2 g a b e])
        · exact Or.inl (Rat.intCast_le_intCast.mpr (off_le ok (by omega) (by omega)))
        · rw [t52, ← tc]; grind
        · rw [t53, ← tf]; grind
      · have cb0 : ¬ cb < 0 := fun q => i2 (cbl.mp q)
        rw [if_neg (fun q => i2 q.2)] at tc tf
        refine wr_if_ge rfl rfl rfl (by omega) (fun c98 => ?_) (fun c98 => by exfalso; omega)
        refine wr_iinc (ls' := [_, _, _]) rfl rfl rfl rfl ?_
        refine wr_goto rfl rfl ?_
        exact ih (j + 1) F2 _ c x (by omega) w w99 bx x1 x2 (fun i hi => by
          by_cases ij : i = j
          · subst ij; exact Or.inr (Rat.not_lt.mp i2)
          · exact pts i (by omega)) tc tf c1 c2 cc kp2
    · have ca0 : ¬ 0 < ca := fun q => i1 (cag.mp q)
      rw [if_neg (fun q => i1 q.1)] at tc tf
      refine wr_if_le rfl rfl rfl (by omega) (fun c84 => ?_) (fun c84 => by exfalso; omega)
      refine wr_iinc (ls' := [_, _, _]) rfl rfl rfl rfl ?_
      refine wr_goto rfl rfl ?_
      exact ih (j + 1) F2 _ c x (by omega) w w99 bx x1 x2 (fun i hi => by
        by_cases ij : i = j
        · subst ij; exact Or.inl (Rat.not_lt.mp i1)
        · exact pts i (by omega)) tc tf c1 c2 cc kp2
theorem rr_areas {d K : Nat} (W : FW h0 h o F0 A) (g : RG n off lev o A) (ok : okG n off lev) (H : ScH n off lev K U Y) (hK : K ≤ 25) (e23 : o 23 = (K : Int)) (kU : ∀ i, i < K → F0 i = U i ∧ F0 (26 + i) = Y i) : am_c X (d + 10) 185 [.ref 164] h (fun r h' => r = none ∧ ∃ F', FW h0 h' o F' A ∧ (F' 52 = arS (scS n off U (pkC n off lev U Y)) (K - 1) ∧ F' 53 = arS (scS n off U (pkF n off lev U Y)) (K - 1)) ∧ (cuB 36 (F' 52) ∧ cuB 36 (F' 53)) ∧ ∀ g, g ≠ 52 → g ≠ 53 → g < 94 → F' g = F0 g) := by
  have n12 := ok.1
  have L : ∀ (m k : Nat) (F1 : Nat → Rat) (h : am_H) (c : Nat) (y : Value), K ≤ k + 1 + m → (k = 0 ∨ k + 1 ≤ K) → FW h0 h o F1 A → F1 52 = arS (scS n off U (pkC n off lev U Y)) k → F1 53 = arS (scS n off U (pkF n off lev U Y)) k → cuB c (F1 52) → cuB c (F1 53) → c ≤ k + gkQ n off (U k) → (∀ g, g ≠ 52 → g ≠ 53 → g < 94 → F1 g = F0 g) → am_w X (d + 9) 185 (18, [.ref 164, .int (iI k), y], [], h) (fun r h' => r = none ∧ ∃ F', FW h0 h' o F' A ∧ (F' 52 = arS (scS n off U (pkC n off lev U Y)) (K - 1) ∧ F' 53 = arS (scS n off U (pkF n off lev U Y)) (K - 1)) ∧ (cuB 36 (F' 52) ∧ cuB 36 (F' 53)) ∧ ∀ g, g ≠ 52 → g ≠ 53 → g < 94 → F' g = F0 g) := by
    intro m
    induction m with
    | zero =>
      intro k F1 h c y hm hk w t1 t2 c1 c2 cc kp
      have cO := w.cO
      have gb := (gkQ_spec n off (U k)).1
      refine wr_iload_n rfl rfl rfl ?_
      refine wr_iconst rfl rfl ?_
      refine wr_iadd rfl rfl ?_
      refine wr_aload_n rfl rfl rfl ?_
      refine wr_get (ci := 12) (f := 23) rfl rfl rfl (by assumption) rfl ?_
      rw [e23]
      refine wr_icmp_ge rfl rfl rfl (by omega) (by omega) (fun c25 => ?_) (fun c25 => by exfalso; omega)
      refine wr_vret rfl rfl ?_
      have ek : K - 1 = k := by omega
      rw [ek]
      exact ⟨rfl, F1, w, ⟨t1, t2⟩, ⟨c1.mono (by omega), c2.mono (by omega)⟩, kp⟩
    | succ m ih =>
      intro k F1 h c y hm hk w t1 t2 c1 c2 cc kp
      have cO := w.cO
      have gb := (gkQ_spec n off (U k)).1
      have e0 : (0 : Int) + (k : Int) = (k : Int) := by omega
      have e1k : (k : Int) + 1 = ((k + 1 : Nat) : Int) := by omega
      by_cases kl : k + 1 < K
      · have qk := H.1 k (by omega)
        have qk1 := H.1 (k + 1) kl
        have vk : ∀ i, i < K → F1 i = U i ∧ F1 (26 + i) = Y i := fun i hi => by rw [kp i (by omega) (by omega) (by omega), kp (26 + i) (by omega) (by omega) (by omega)]; exact kU i hi
        refine wr_iload_n rfl rfl rfl ?_
        refine wr_iconst rfl rfl ?_
        refine wr_iadd rfl rfl ?_
        refine wr_aload_n rfl rfl rfl ?_
        refine wr_get (ci := 12) (f := 23) rfl rfl rfl (by assumption) rfl ?_
        rw [e23]
        refine wr_icmp_ge rfl rfl rfl (by omega) (by omega) (fun c25 => by exfalso; omega) (fun c25 => ?_)
        refine wr_aload_n rfl rfl rfl ?_
        refine wr_iconst rfl rfl ?_
        refine wr_iload_n rfl rfl rfl ?_
        refine wr_iadd rfl rfl ?_
        rw [e0]
        refine wr_iconst rfl rfl ?_
        refine wr_iload_n rfl rfl rfl ?_
        refine wr_iadd rfl rfl ?_
        rw [e0]
        refine wr_iconst rfl rfl ?_
        refine wr_iadd rfl rfl ?_
        rw [e1k]
        refine wr_cv2 (k' := 186) (ci := 12) rfl rfl rfl rfl (by assumption) rfl rfl (fw_compare (a := k) (b := k + 1) (P := 3) (R := 3) w (by omega) (by omega) (by rw [(vk k (by omega)).1]; exact qk.1) (by rw [(vk (k + 1) kl).1]; exact qk1.1) (by decide)) (fun r h2 q => ?_)
        obtain ⟨⟨ca, rfl, car, cal, -⟩, w⟩ := q
        rw [(vk k (by omega)).1, (vk (k + 1) kl).1] at cal
        have cO := w.cO
        by_cases lt : U k < U (k + 1)
        · have ca0 := cal.mpr lt
          refine wr_if_ge rfl rfl rfl (by omega) (fun c40 => by exfalso; omega) (fun c40 => ?_)
          refine wr_aload_n rfl rfl rfl ?_
          refine wr_bipush rfl rfl (by decide) ?_
          refine wr_iconst rfl rfl ?_
          refine wr_iload_n rfl rfl rfl ?_
          refine wr_iadd rfl rfl ?_
          rw [e0]
          refine wr_cv2 (k' := 184) (ci := 12) rfl rfl rfl rfl (by assumption) rfl rfl (fw_copy (f := 99) (g := k) w (by decide) (by omega) (by omega)) (fun r h2 q => ?_)
          obtain ⟨rfl, w⟩ := q
          obtain ⟨F2, w, s2, m2⟩ := ff_ex w
          rw [(vk k (by omega)).1] at s2
          have cO := w.cO
          have e1 : scS n off U (pkC n off lev U Y) k = coF off (pkC n off lev U Y k) (U (k + 1)) n 0 (U k) := if_pos lt
          have e2 : scS n off U (pkF n off lev U Y) k = coF off (pkF n off lev U Y k) (U (k + 1)) n 0 (U k) := if_pos lt
          refine wr_iconst rfl rfl ?_
          refine wr_istore_n (ls' := [_, _, _]) rfl rfl (Nat.le_of_ble_eq_true rfl) rfl ?_
          refine rr_areaI (TC := arS (scS n off U (pkC n off lev U Y)) (k + 1)) (TF := arS (scS n off U (pkF n off lev U Y)) (k + 1)) (F0 := F0) g ok H hK kl lt kU (fun F' h' c' y' w' u52 u53 v1 v2 cc' kp' => ?_) n 0 F2 _ c (U k) (by omega) w s2 (Or.inl rfl) (Rat.le_refl) lt (fun i hi => absurd hi (Nat.not_lt_zero _)) ?_ ?_ (by rw [m2 52 (by decide)]; exact c1) (by rw [m2 53 (by decide)]; exact c2) cc (fun g a b e => by rw [m2 g (by omega), kp g a b e])
          ·
            have cO := w'.cO
            refine wr_iinc (ls' := [_, _, _]) rfl rfl rfl rfl ?_
            refine wr_goto rfl rfl ?_
            exact ih (k + 1) F' h' c' y' (by omega) (Or.inr (by omega)) w' u52 u53 (by rw [u52]; exact v1) (by rw [u53]; exact v2) cc' kp'
          · rw [m2 52 (by decide), t1, arS, e1]
          · rw [m2 53 (by decide), t2, arS, e2]
        · have ca0 : ¬ ca < 0 := fun q => lt (cal.mp q)
          have e1 : scS n off U (pkC n off lev U Y) k = 0 := if_neg lt
          have e2 : scS n off U (pkF n off lev U Y) k = 0 := if_neg lt
          have gm := gkQ_mono ok (H.2.1 k kl)
          refine wr_if_ge rfl rfl rfl (by omega) (fun c40 => ?_) (fun c40 => by exfalso; omega)
          refine wr_iinc (ls' := [_, _, _]) rfl rfl rfl rfl ?_
          refine wr_goto rfl rfl ?_
          exact ih (k + 1) F1 _ c y (by omega) (Or.inr (by omega)) w (by rw [t1, arS, e1]; grind) (by rw [t2, arS, e2]; grind) c1 c2 (by omega) kp
      ·
        refine wr_iload_n rfl rfl rfl ?_
        refine wr_iconst rfl rfl ?_
        refine wr_iadd rfl rfl ?_
        refine wr_aload_n rfl rfl rfl ?_
        refine wr_get (ci := 12) (f := 23) rfl rfl rfl (by assumption) rfl ?_
        rw [e23]
        refine wr_icmp_ge rfl rfl rfl (by omega) (by omega) (fun c25 => ?_) (fun c25 => by exfalso; omega)
        refine wr_vret rfl rfl ?_
        have ek : K - 1 = k := by omega
        rw [ek]
        exact ⟨rfl, F1, w, ⟨t1, t2⟩, ⟨c1.mono (by omega), c2.mono (by omega)⟩, kp⟩
  have w := W
  have cO := w.cO
  refine am_c.of (Nat.le_of_ble_eq_true rfl) ?_
  show am_w _ _ _ (_, [_, _, _], _, _) _
  refine wr_aload_n rfl rfl rfl ?_
  refine wr_bipush rfl rfl (by decide) ?_
  refine wr_lconst (z := 0) rfl rfl rfl ?_
  refine wr_lconst (z := 1) rfl rfl rfl ?_
  refine wr_cv3 (k' := 140) (ci := 12) rfl rfl rfl rfl (by assumption) rfl rfl (fw_set (f := 52) (u := 0) (v := 1) w (by decide) (by decide) (by decide) (by decide)) (fun r h2 q => ?_)
  obtain ⟨rfl, w⟩ := q
  obtain ⟨F2, w, s2, m2⟩ := ff_ex w
  have cO := w.cO
  refine wr_aload_n rfl rfl rfl ?_
  refine wr_bipush rfl rfl (by decide) ?_
  refine wr_lconst (z := 0) rfl rfl rfl ?_
  refine wr_lconst (z := 1) rfl rfl rfl ?_
  refine wr_cv3 (k' := 140) (ci := 12) rfl rfl rfl rfl (by assumption) rfl rfl (fw_set (f := 53) (u := 0) (v := 1) w (by decide) (by decide) (by decide) (by decide)) (fun r h2 q => ?_)
  obtain ⟨rfl, w⟩ := q
  obtain ⟨F3, w, s3, m3⟩ := ff_ex w
  have cO := w.cO
  have z1 : F3 52 = 0 := by rw [m3 52 (by decide), s2, div1Q]; rfl
  have z2 : F3 53 = 0 := by rw [s3, div1Q]; rfl
  refine wr_iconst rfl rfl ?_
  refine wr_istore_n (ls' := [_, _, _]) rfl rfl (Nat.le_of_ble_eq_true rfl) rfl ?_
  exact L K 0 F3 _ 0 am_U (by omega) (Or.inl rfl) w z1 z2 (by rw [z1]; exact cuB0) (by rw [z2]; exact cuB0) (by omega) (fun g a b e => by rw [m3 g b, m2 g a])
end RTD
