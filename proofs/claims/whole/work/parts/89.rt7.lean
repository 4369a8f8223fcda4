/-! A LEVEL, PURELY -/
section RTH
variable {z : PS} {n : Nat} {off lev : Nat → Int} {sg : Int} {s : Sq} {eo el : Rat}
theorem lvF_spec {x : Rat} : ∀ (m i : Nat), i ≤ lvF s eo x m i ∧ lvF s eo x m i ≤ i + m ∧ (∀ j, i ≤ j → j < lvF s eo x m i → OuQ s eo j < x) ∧ (lvF s eo x m i < i + m → x ≤ OuQ s eo (lvF s eo x m i))
  | 0, i => ⟨Nat.le_refl _, Nat.le_refl _, fun j a b => by simp only [lvF] at b; omega, fun q => by simp only [lvF] at q; omega⟩
  | m + 1, i => by
    unfold lvF
    by_cases c : x ≤ OuQ s eo i
    · rw [if_pos c]
      exact ⟨Nat.le_refl _, by omega, fun j a b => by omega, fun _ => c⟩
    · rw [if_neg c]
      obtain ⟨a1, a2, a3, a4⟩ := lvF_spec (x := x) m (i + 1)
      refine ⟨by omega, by omega, fun j h1 h2 => ?_, fun q => a4 (by omega)⟩
      by_cases e : j = i
      · subst e; exact Rat.not_le.mp c
      · exact a3 j (by omega) h2
theorem lvF_is {x : Rat} {i : Nat} (hi : i ≤ s.N) (h1 : ∀ j, j < i → OuQ s eo j < x) (h2 : x ≤ OuQ s eo i) : lvF s eo x (s.N + 1) 0 = i := by
  obtain ⟨a1, a2, a3, a4⟩ := lvF_spec (s := s) (eo := eo) (x := x) (s.N + 1) 0
  rcases Nat.lt_trichotomy (lvF s eo x (s.N + 1) 0) i with c | c | c
  · have b1 := h1 _ c
    have b2 := a4 (by omega)
    exact absurd b1 (Rat.not_lt.mpr b2)
  · exact c
  · have b1 := a3 i (by omega) c
    exact absurd b1 (Rat.not_lt.mpr h2)
theorem lvF_no {x : Rat} (h1 : ∀ j, j ≤ s.N → OuQ s eo j < x) : ¬ lvF s eo x (s.N + 1) 0 ≤ s.N := by
  intro c
  obtain ⟨a1, a2, a3, a4⟩ := lvF_spec (s := s) (eo := eo) (x := x) (s.N + 1) 0
  exact absurd (h1 _ c) (Rat.not_lt.mpr (a4 (by omega)))
theorem sd_up (H : sdH n off lev sg s eo el) : ∀ (i : Nat), i ≤ s.N → (∀ j, j ≤ i → OuQ s eo j ≤ OuQ s eo i) ∧ 0 ≤ OuQ s eo i := by
  intro i
  induction i with
  | zero =>
    intro hi
    have d := out_in (s := s) (eo := eo) (el := el) (i := 0) (fun q => by have := (H.fin q.1).1; omega)
    refine ⟨fun j hj => ?_, ?_⟩
    · rw [show j = 0 by omega]; exact Rat.le_refl
    · rw [d.1, H.o0]; decide
  | succ i ih =>
    intro hi
    obtain ⟨a, b⟩ := ih (by omega)
    have m := sd_mono H (i := i + 1) (by omega) hi
    rw [show i + 1 - 1 = i from rfl, ← (out_in (s := s) (eo := eo) (el := el) (i := i) (by omega)).1] at m
    refine ⟨fun j hj => ?_, Rat.le_trans b m⟩
    by_cases q : j = i + 1
    · subst q; exact Rat.le_refl
    · exact Rat.le_trans (a j (by omega)) m
theorem sd_at (H : sdH n off lev sg s eo el) {i : Nat} {x : Rat} (hi : i ≤ s.N) (h1 : ∀ j, j < i → OuQ s eo j < x) (h2 : OuQ s eo i = x) : lvQ s i x = LvQ s el i := by
  unfold lvQ
  by_cases c : i = 0
  · rw [if_pos c]
    subst c
    exact (out_in (s := s) (eo := eo) (el := el) (i := 0) (fun q => by have := (H.fin q.1).1; omega)).2.symm
  · rw [if_neg c, ← h2]
    have := h1 (i - 1) (by omega)
    rw [(out_in (s := s) (eo := eo) (el := el) (i := i - 1) (by omega)).1, ← h2] at this
    exact (H.top (by omega) hi this).1
theorem u0_R (H2 : sdH z.vn z.vo z.vl 1 z.R z.eR z.fR) : zU z z.L.N = 0 := by
  rw [(corn_R (z := z) z.L.N 0 rfl).1, (out_in (s := z.R) (eo := z.eR) (el := z.fR) (i := 0) (fun q => by have := (H2.fin q.1).1; omega)).1, H2.o0]
  rfl
/-- beyond the corners -/
theorem lev_out (w1 : z.wk = 1) (H1 : sdH z.vn z.vo z.vl (-1) z.L z.eL z.fL) (H2 : sdH z.vn z.vo z.vl 1 z.R z.eR z.fR) {off part : Int} (h : (off : Rat) < zU z 0 ∨ zU z (z.L.N + z.R.N) < (off : Rat)) : levP z off part = missP part := by
  unfold levP
  rw [if_pos w1]
  have b := (corn_R (z := z) (z.L.N + z.R.N) z.R.N rfl).1
  have r0 := (sd_up H2 z.R.N (Nat.le_refl _)).2
  have a : zU z 0 = -(OuQ z.L z.eL z.L.N) := by
    by_cases c : z.L.N = 0
    · have := u0_R H2
      rw [c] at this
      rw [this, c, (out_in (s := z.L) (eo := z.eL) (el := z.fL) (i := 0) (fun q => by have := (H1.fin q.1).1; omega)).1, H1.o0]
      rfl
    · have := (corn_L (z := z) 0 (by omega)).1
      rw [Nat.sub_zero] at this
      exact this
  have l0 := (sd_up H1 z.L.N (Nat.le_refl _)).2
  rw [a, b] at h
  have cn : ((-off : Int) : Rat) = -(off : Rat) := by grind
  by_cases c : off < 0
  · have c0 : (off : Rat) < ((0 : Int) : Rat) := Rat.intCast_lt_intCast.mpr c
    have z0 : ((0 : Int) : Rat) = 0 := rfl
    rw [z0] at c0
    rw [if_pos c]
    unfold levS
    rw [if_neg]
    refine lvF_no (fun j hj => ?_)
    have := (sd_up H1 z.L.N (Nat.le_refl _)).1 j hj
    rw [cn]
    rcases h with h | h <;> grind
  · have c0 : ((0 : Int) : Rat) ≤ (off : Rat) := Rat.intCast_le_intCast.mpr (by omega)
    have z0 : ((0 : Int) : Rat) = 0 := rfl
    rw [z0] at c0
    rw [if_neg c]
    unfold levS
    rw [if_neg]
    refine lvF_no (fun j hj => ?_)
    have := (sd_up H2 z.R.N (Nat.le_refl _)).1 j hj
    rcases h with h | h <;> grind
/-- at a corner -/
theorem lev_at (w1 : z.wk = 1) (H1 : sdH z.vn z.vo z.vl (-1) z.L z.eL z.fL) (H2 : sdH z.vn z.vo z.vl 1 z.R z.eR z.fR) {off part : Int} {b : Nat} (hb : b < z.L.N + 1 + z.R.N) (e : zU z b = (off : Rat)) (near : ∀ i, i < z.L.N + 1 + z.R.N → zU z i = (off : Rat) → ((b : Int) - z.L.N).natAbs ≤ ((i : Int) - z.L.N).natAbs) : levP z off part = tellP (zY z b) 1 part := by
  have cn : ((-off : Int) : Rat) = -(off : Rat) := by grind
  have z0 : ((0 : Int) : Rat) = 0 := rfl
  unfold levP
  rw [if_pos w1]
  by_cases c : off < 0
  · have c0 : (off : Rat) < ((0 : Int) : Rat) := Rat.intCast_lt_intCast.mpr c
    rw [z0] at c0
    have bl : b < z.L.N := by
      refine Decidable.byContradiction fun q => ?_
      have := (corn_R (z := z) b (b - z.L.N) (by omega)).1
      have u := (sd_up H2 (b - z.L.N) (by omega)).2
      rw [← this, e] at u
      exact absurd c0 (Rat.not_lt.mpr u)
    obtain ⟨f1, f2⟩ := corn_L b bl
    rw [f1] at e
    have oe : OuQ z.L z.eL (z.L.N - b) = ((-off : Int) : Rat) := by rw [cn, ← e]; grind
    have ls : ∀ j, j < z.L.N - b → OuQ z.L z.eL j < ((-off : Int) : Rat) := by
      intro j hj
      have u := (sd_up H1 (z.L.N - b) (by omega)).1 j (by omega)
      rw [oe] at u
      refine Rat.lt_of_le_of_ne u (fun q => ?_)
      by_cases j0 : j = 0
      · rw [j0, (out_in (s := z.L) (eo := z.eL) (el := z.fL) (i := 0) (fun q => by have := (H1.fin q.1).1; omega)).1, H1.o0, z0, cn] at q
        grind
      · have v := (corn_L (z := z) (z.L.N - j) (by omega)).1
        rw [show z.L.N - (z.L.N - j) = j by omega, q, cn] at v
        have := near (z.L.N - j) (by omega) (by rw [v]; grind)
        omega
    rw [if_pos c]
    unfold levS
    have L := lvF_is (s := z.L) (eo := z.eL) (x := ((-off : Int) : Rat)) (i := z.L.N - b) (by omega) ls (by rw [oe]; exact Rat.le_refl)
    rw [L, if_pos (by omega), sd_at H1 (by omega) ls oe, f2]
  · have c0 : ((0 : Int) : Rat) ≤ (off : Rat) := Rat.intCast_le_intCast.mpr (by omega)
    rw [z0] at c0
    have bl : z.L.N ≤ b := by
      refine Decidable.byContradiction fun q => ?_
      have f := (corn_L (z := z) b (by omega)).1
      have u := (sd_up H1 (z.L.N - b) (by omega)).2
      have o0 : (off : Rat) = 0 := by rw [e] at f; grind
      have := near z.L.N (by omega) (by rw [u0_R H2, o0])
      omega
    obtain ⟨f1, f2⟩ := corn_R (z := z) b (b - z.L.N) (by omega)
    rw [f1] at e
    have ls : ∀ j, j < b - z.L.N → OuQ z.R z.eR j < (off : Rat) := by
      intro j hj
      have u := (sd_up H2 (b - z.L.N) (by omega)).1 j (by omega)
      rw [e] at u
      refine Rat.lt_of_le_of_ne u (fun q => ?_)
      have := near (z.L.N + j) (by omega) (by rw [(corn_R (z := z) (z.L.N + j) j rfl).1, q])
      omega
    rw [if_neg c]
    unfold levS
    have L := lvF_is (s := z.R) (eo := z.eR) (x := (off : Rat)) (i := b - z.L.N) (by omega) ls (by rw [e]; exact Rat.le_refl)
    rw [L, if_pos (by omega), sd_at H2 (by omega) ls e, f2]
/-- between two corners -/
theorem lev_mid (w1 : z.wk = 1) (H1 : sdH z.vn z.vo z.vl (-1) z.L z.eL z.fL) (H2 : sdH z.vn z.vo z.vl 1 z.R z.eR z.fR) (h0 : z.L.hi 0 = z.R.hi 0) {off part : Int} {k : Nat} (hk : k + 1 < z.L.N + 1 + z.R.N) (e1 : zU z k < (off : Rat)) (e2 : (off : Rat) < zU z (k + 1)) : levP z off part = tellP (lnQ (zU z k) (zU z (k + 1)) (zY z k) (zY z (k + 1)) (off : Rat)) 1 part := by
  have cn : ((-off : Int) : Rat) = -(off : Rat) := by grind
  have z0 : ((0 : Int) : Rat) = 0 := rfl
  unfold levP
  rw [if_pos w1]
  by_cases kl : k < z.L.N
  · obtain ⟨a, b, c, d⟩ := sec_L H1 H2 h0 kl
    have lt2 : (z.L.ou (z.L.N - k - 1) : Rat) < OuQ z.L z.eL (z.L.N - k) := by rw [a] at e1; rw [c] at e2; grind
    have up := sd_up H1 (z.L.N - k - 1) (by omega)
    have oi := (out_in (s := z.L) (eo := z.eL) (el := z.fL) (i := z.L.N - k - 1) (by omega)).1
    have neg : off < 0 := by
      have : (off : Rat) < ((0 : Int) : Rat) := by
        rw [z0]
        have := up.2
        rw [oi] at this
        rw [c] at e2
        grind
      exact Rat.intCast_lt_intCast.mp this
    rw [if_pos neg]
    unfold levS
    have L := lvF_is (s := z.L) (eo := z.eL) (x := ((-off : Int) : Rat)) (i := z.L.N - k) (by omega) (fun j hj => by
      have u := up.1 j (by omega)
      rw [oi] at u
      rw [c] at e2
      rw [cn]
      grind) (by rw [cn]; rw [a] at e1; grind)
    rw [L, if_pos (by omega)]
    unfold lvQ
    rw [if_neg (by omega), a, b, c, d, H1.lft (by omega) (by omega) lt2, cn]
  · obtain ⟨a, b, c, d⟩ := sec_R (z := z) (k := k) (t := k - z.L.N) (by omega) (by omega)
    have lt2 : (z.R.ou (k - z.L.N + 1 - 1) : Rat) < OuQ z.R z.eR (k - z.L.N + 1) := by rw [a] at e1; rw [c] at e2; show (z.R.ou (k - z.L.N) : Rat) < _; grind
    have up := sd_up H2 (k - z.L.N) (by omega)
    have oi := (out_in (s := z.R) (eo := z.eR) (el := z.fR) (i := k - z.L.N) (by omega)).1
    have pos : ¬ off < 0 := by
      intro q
      have : (off : Rat) < ((0 : Int) : Rat) := Rat.intCast_lt_intCast.mpr q
      rw [z0] at this
      have u := up.2
      rw [oi] at u
      rw [a] at e1
      grind
    rw [if_neg pos]
    unfold levS
    have L := lvF_is (s := z.R) (eo := z.eR) (x := (off : Rat)) (i := k - z.L.N + 1) (by omega) (fun j hj => by
      have u := up.1 j (by omega)
      rw [oi] at u
      rw [a] at e1
      grind) (by rw [c] at e2; exact Rat.le_of_lt e2)
    rw [L, if_pos (by omega)]
    unfold lvQ
    have r := H2.rgt (i := k - z.L.N + 1) (by omega) (by omega) lt2 (off : Rat)
    rw [if_neg (by omega), a, b, c, d]
    rw [show k - z.L.N + 1 - 1 = k - z.L.N from rfl] at r
    rw [r]
end RTH
