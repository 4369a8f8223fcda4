/-! THE GROUND'S LINE, over the rationals -/
theorem mulB {a b A B : Int} (ha : -A ≤ a ∧ a ≤ A) (hb : -B ≤ b ∧ b ≤ B) : -(A * B) ≤ a * b ∧ a * b ≤ A * B := by
  have A0 : 0 ≤ A := by omega
  have B0 : 0 ≤ B := by omega
  have h1 : (a * b).natAbs ≤ (A * B).natAbs := by
    rw [Int.natAbs_mul, Int.natAbs_mul]
    exact Nat.mul_le_mul (by omega) (by omega)
  have h2 : 0 ≤ A * B := Int.mul_nonneg A0 B0
  omega
def gkQF (off : Nat → Int) (x : Rat) : Nat → Nat → Nat
  | 0, i => i
  | m + 1, i => if (off i : Rat) ≤ x then gkQF off x m (i + 1) else i
def gkQ (n : Nat) (off : Nat → Int) (x : Rat) : Nat := gkQF off x n 0
theorem gkQF_spec {off : Nat → Int} {x : Rat} : ∀ (m i : Nat), i ≤ gkQF off x m i ∧ gkQF off x m i ≤ i + m ∧ (∀ j, i ≤ j → j < gkQF off x m i → (off j : Rat) ≤ x) ∧ (gkQF off x m i < i + m → ¬ (off (gkQF off x m i) : Rat) ≤ x)
  | 0, i => ⟨Nat.le_refl _, Nat.le_refl _, fun j a b => by simp only [gkQF] at b; omega, fun q => by simp only [gkQF] at q; omega⟩
  | m + 1, i => by
    unfold gkQF
    by_cases c : (off i : Rat) ≤ x
    · rw [if_pos c]
      obtain ⟨a1, a2, a3, a4⟩ := gkQF_spec (off := off) (x := x) m (i + 1)
      refine ⟨by omega, by omega, fun j h1 h2 => ?_, fun q => a4 (by omega)⟩
      by_cases e : j = i
      · subst e; exact c
      · exact a3 j (by omega) h2
    · rw [if_neg c]
      exact ⟨Nat.le_refl _, by omega, fun j h1 h2 => by omega, fun _ => c⟩
theorem gkQ_spec (n : Nat) (off : Nat → Int) (x : Rat) : gkQ n off x ≤ n ∧ (∀ j, j < gkQ n off x → (off j : Rat) ≤ x) ∧ (gkQ n off x < n → ¬ (off (gkQ n off x) : Rat) ≤ x) := by
  have := gkQF_spec (off := off) (x := x) n 0
  unfold gkQ
  refine ⟨by omega, fun j h => this.2.2.1 j (by omega) h, fun h => this.2.2.2 (by omega)⟩
theorem gkQF_int {off : Nat → Int} {o : Int} : ∀ m i, gkQF off (o : Rat) m i = gkF off o m i
  | 0, i => rfl
  | m + 1, i => by
    unfold gkQF gkF
    rw [gkQF_int m]
    by_cases c : off i ≤ o
    · rw [if_pos c, if_pos (Rat.intCast_le_intCast.mpr c)]
    · rw [if_neg c, if_neg (fun q => c (Rat.intCast_le_intCast.mp q))]
theorem gkQ_int (n : Nat) (off : Nat → Int) (o : Int) : gkQ n off (o : Rat) = gk n off o := gkQF_int n 0
/-- the ground's level at x -/
def GrQ (n : Nat) (off lev : Nat → Int) (x : Rat) : Rat := if n = 0 then 0 else if gkQ n off x = 0 then lev 0 else if gkQ n off x = n then lev (n - 1) else (x - off (gkQ n off x - 1)) * ((lev (gkQ n off x) - lev (gkQ n off x - 1) : Int) / (off (gkQ n off x) - off (gkQ n off x - 1) : Int)) + lev (gkQ n off x - 1)
theorem divQ (a b : Int) : Rat.divInt a b = (a : Rat) / (b : Rat) := Rat.divInt_eq_div a b
theorem cast_ne {a b : Int} (h : a < b) : ((b - a : Int) : Rat) ≠ 0 := by
  intro q
  have : b - a = 0 := by exact_mod_cast q
  omega
theorem GrQ_int {n : Nat} {off lev : Nat → Int} {o : Int} (ok : okG n off lev) : Rat.divInt (gU n off lev o) (gL n off o) = GrQ n off lev (o : Rat) := by
  have s := gk_spec n off o
  unfold gU gL GrQ
  rw [gkQ_int]
  generalize gk n off o = k at *
  by_cases n0 : n = 0
  · rw [if_pos n0, if_neg (by omega), if_pos n0]
    simp
  rw [if_neg n0, if_neg n0]
  by_cases k0 : k = 0
  · rw [if_pos k0, if_neg (by omega), if_pos k0, divQ]
    grind
  rw [if_neg k0, if_neg k0]
  by_cases kn : k = n
  · rw [if_pos (by omega), if_neg (by omega), if_pos kn, divQ, kn]
    grind
  · have h := cast_ne (ok.2.2.2 (k - 1) k (by omega) (by omega))
    rw [if_neg (by omega), if_pos (by omega), if_neg kn, divQ]
    generalize off k = a at *
    generalize off (k - 1) = b at *
    grind
theorem off_le {n : Nat} {off lev : Nat → Int} (ok : okG n off lev) {i j : Nat} (h : i ≤ j) (hj : j < n) : off i ≤ off j := by
  by_cases e : i = j
  · subst e; omega
  · have := ok.2.2.2 i j (by omega) hj; omega
theorem offQ_lt {n : Nat} {off lev : Nat → Int} (ok : okG n off lev) {i j : Nat} (h : i < j) (hj : j < n) : (off i : Rat) < off j := Rat.intCast_lt_intCast.mpr (ok.2.2.2 i j h hj)
theorem gkQ_is {n : Nat} {off lev : Nat → Int} (ok : okG n off lev) {x : Rat} {k : Nat} (hk : k ≤ n) (h1 : 0 < k → (off (k - 1) : Rat) ≤ x) (h2 : k < n → x < off k) : gkQ n off x = k := by
  have s := gkQ_spec n off x
  generalize gkQ n off x = m at *
  rcases Nat.lt_trichotomy m k with c | c | c
  · have a := s.2.2 (by omega)
    have b := h1 (by omega)
    by_cases e : m = k - 1
    · rw [e] at a; exact absurd b a
    · have := offQ_lt ok (i := m) (j := k - 1) (by omega) (by omega)
      exact absurd (Rat.le_trans (Rat.le_of_lt this) b) a
  · exact c
  · have a := s.2.1 k c
    have b := h2 (by omega)
    exact absurd a (Rat.not_le.mpr b)
theorem GrQ_at {n : Nat} {off lev : Nat → Int} (ok : okG n off lev) {i : Nat} (hi : i < n) : GrQ n off lev (off i : Rat) = lev i := by
  have k : gkQ n off (off i : Rat) = i + 1 := gkQ_is ok (by omega) (fun _ => by simp) (fun h => offQ_lt ok (by omega) h)
  unfold GrQ
  rw [k, if_neg (by omega), if_neg (by omega)]
  by_cases e : i + 1 = n
  · rw [if_pos e]
    simp [← e]
  · rw [if_neg e, Nat.add_sub_cancel]
    grind
theorem GrQ_lo {n : Nat} {off lev : Nat → Int} (ok : okG n off lev) {x : Rat} (hn : 0 < n) (h : x ≤ off 0) : GrQ n off lev x = lev 0 := by
  by_cases e : x = off 0
  · rw [e]; exact GrQ_at ok hn
  · have k : gkQ n off x = 0 := gkQ_is ok (by omega) (fun q => by omega) (fun _ => Rat.lt_of_le_of_ne h e)
    unfold GrQ
    rw [k, if_neg (by omega), if_pos rfl]
theorem GrQ_hi {n : Nat} {off lev : Nat → Int} (ok : okG n off lev) {x : Rat} (hn : 0 < n) (h : (off (n - 1) : Rat) ≤ x) : GrQ n off lev x = lev (n - 1) := by
  have k : gkQ n off x = n := gkQ_is ok (by omega) (fun q => h) (fun q => by omega)
  unfold GrQ
  rw [k, if_neg (by omega), if_neg (by omega), if_pos rfl]
theorem GrQ_mid {n : Nat} {off lev : Nat → Int} (ok : okG n off lev) {x : Rat} {i : Nat} (hi : i + 1 < n) (h1 : (off i : Rat) ≤ x) (h2 : x ≤ off (i + 1)) : GrQ n off lev x = lev i + (lev (i + 1) - lev i : Int) * (x - off i) / (off (i + 1) - off i : Int) := by
  have nz := cast_ne (ok.2.2.2 i (i + 1) (by omega) hi)
  by_cases e : x = off (i + 1)
  · rw [e, GrQ_at ok hi]
    generalize off i = a at *
    generalize off (i + 1) = b at *
    grind
  · have k : gkQ n off x = i + 1 := gkQ_is ok (by omega) (fun q => h1) (fun _ => Rat.lt_of_le_of_ne h2 e)
    unfold GrQ
    rw [k, if_neg (by omega), if_neg (by omega), if_neg (by omega), Nat.add_sub_cancel]
    generalize off i = a at *
    generalize off (i + 1) = b at *
    grind
/-! THE GROUND, SEEN OUTWARD ON A SIDE -/
def ixO (n : Nat) (sg : Int) (j : Nat) : Nat := if sg = 1 then j else n - 1 - j
def uO (n : Nat) (off : Nat → Int) (sg : Int) (j : Nat) : Int := sg * off (ixO n sg j)
def vO (n : Nat) (lev : Nat → Int) (sg : Int) (j : Nat) : Int := lev (ixO n sg j)
theorem ixO_lt {n j : Nat} {sg : Int} (h : j < n) : ixO n sg j < n := by unfold ixO; split <;> omega
theorem uO_mono {n : Nat} {off lev : Nat → Int} {sg : Int} (ok : okG n off lev) (hs : sg = 1 ∨ sg = -1) {i j : Nat} (h : i < j) (hj : j < n) : uO n off sg i < uO n off sg j := by
  unfold uO ixO
  rcases hs with rfl | rfl
  · have := ok.2.2.2 i j h hj
    simp; omega
  · have := ok.2.2.2 (n - 1 - j) (n - 1 - i) (by omega) (by omega)
    simp; omega
theorem uO_in {n j : Nat} {off lev : Nat → Int} {sg : Int} (ok : okG n off lev) (hs : sg = 1 ∨ sg = -1) : -100000 ≤ uO n off sg j ∧ uO n off sg j ≤ 100000 := by
  have := ok.2.1 (ixO n sg j)
  unfold uO
  rcases hs with rfl | rfl <;> omega
/-- how many points are not beyond pl on the side -/
def kO (n : Nat) (off : Nat → Int) (sg pl : Int) : Nat := gk n (uO n off sg) pl
theorem gN_spec (off : Nat → Int) (sg pl : Int) : ∀ m : Nat, (gN off sg pl m = -1 ∧ ∀ i, i < m → ¬ pl < sg * off i) ∨ (0 ≤ gN off sg pl m ∧ gN off sg pl m < m ∧ pl < sg * off (gN off sg pl m).toNat ∧ ∀ i, i < m → pl < sg * off i → sg * off (gN off sg pl m).toNat ≤ sg * off i)
  | 0 => Or.inl ⟨rfl, fun i h => by omega⟩
  | m + 1 => by
    have ih := gN_spec off sg pl m
    unfold gN
    by_cases c : pl < sg * off m ∧ (gN off sg pl m < 0 ∨ sg * off m < sg * off (gN off sg pl m).toNat)
    · rw [if_pos c]
      refine Or.inr ⟨by omega, by omega, by simpa using c.1, fun i hi hp => ?_⟩
      rw [Int.toNat_natCast]
      by_cases e : i = m
      · subst e; omega
      · rcases ih with ⟨_, a⟩ | ⟨_, _, _, a⟩
        · exact absurd hp (a i (by omega))
        · have := a i (by omega) hp
          omega
    · rw [if_neg c]
      rcases ih with ⟨a0, a⟩ | ⟨a0, a1, a2, a⟩
      · refine Or.inl ⟨a0, fun i hi => ?_⟩
        by_cases e : i = m
        · subst e; omega
        · exact a i (by omega)
      · refine Or.inr ⟨a0, by omega, a2, fun i hi hp => ?_⟩
        by_cases e : i = m
        · subst e; omega
        · exact a i (by omega) hp
theorem ixO_surj {n i : Nat} {sg : Int} (h : i < n) : ∃ j, j < n ∧ ixO n sg j = i := by
  by_cases c : sg = 1
  · exact ⟨i, h, by simp [ixO, c]⟩
  · exact ⟨n - 1 - i, by omega, by simp [ixO, c]; omega⟩
theorem gN_kO {n : Nat} {off lev : Nat → Int} {sg pl : Int} (ok : okG n off lev) (hs : sg = 1 ∨ sg = -1) : (kO n off sg pl < n ∧ gN off sg pl n = ixO n sg (kO n off sg pl)) ∨ (kO n off sg pl = n ∧ gN off sg pl n = -1) := by
  have s := gk_spec n (uO n off sg) pl
  have g := gN_spec off sg pl n
  unfold kO
  generalize gk n (uO n off sg) pl = k at *
  by_cases c : k < n
  · have a := s.2.2 c
    have kl := ixO_lt (sg := sg) c
    rcases g with ⟨_, b⟩ | ⟨b0, b1, b2, b⟩
    · exact absurd a (b _ kl)
    · refine Or.inl ⟨c, ?_⟩
      have e := b _ kl a
      obtain ⟨j, j1, j2⟩ := ixO_surj (n := n) (sg := sg) (i := (gN off sg pl n).toNat) (by omega)
      have hj : j = k := by
        rcases Nat.lt_trichotomy j k with q | q | q
        · have := s.2.1 j q
          unfold uO at this
          rw [j2] at this
          omega
        · exact q
        · have := uO_mono ok hs q j1
          unfold uO at this
          rw [j2] at this
          omega
      rw [← hj, j2]
      omega
  · rcases g with ⟨b0, b⟩ | ⟨b0, b1, b2, b⟩
    · exact Or.inr ⟨by omega, b0⟩
    · obtain ⟨j, j1, j2⟩ := ixO_surj (n := n) (sg := sg) (i := (gN off sg pl n).toNat) (by omega)
      have := s.2.1 j (by omega)
      unfold uO at this
      rw [j2] at this
      omega
/-- the ground's level at o out on the side -/
def Lo (n : Nat) (off lev : Nat → Int) (sg : Int) (x : Rat) : Rat := GrQ n off lev (sg * x)
theorem Lo_at {n j : Nat} {off lev : Nat → Int} {sg : Int} (ok : okG n off lev) (hs : sg = 1 ∨ sg = -1) (h : j < n) : Lo n off lev sg (uO n off sg j) = vO n lev sg j := by
  have e : ((sg : Rat) * (uO n off sg j : Rat)) = off (ixO n sg j) := by
    unfold uO
    rcases hs with rfl | rfl <;> grind
  unfold Lo vO
  rw [e]
  exact GrQ_at ok (ixO_lt h)
theorem Lo_none {off lev : Nat → Int} {sg : Int} {x : Rat} : Lo 0 off lev sg x = 0 := by simp [Lo, GrQ]
theorem Lo_first {n : Nat} {off lev : Nat → Int} {sg : Int} {x : Rat} (ok : okG n off lev) (hs : sg = 1 ∨ sg = -1) (hn : 0 < n) (h : x ≤ uO n off sg 0) : Lo n off lev sg x = vO n lev sg 0 := by
  unfold Lo vO
  unfold uO at h
  rcases hs with rfl | rfl
  · have e : ixO n 1 0 = 0 := by simp [ixO]
    rw [e] at h ⊢
    rw [show ((1 : Int) : Rat) * x = x by grind]
    exact GrQ_lo ok hn (by grind)
  · have e : ixO n (-1) 0 = n - 1 := by simp [ixO]
    rw [e] at h ⊢
    rw [show ((-1 : Int) : Rat) * x = -x by grind]
    exact GrQ_hi ok hn (by grind)
theorem Lo_last {n : Nat} {off lev : Nat → Int} {sg : Int} {x : Rat} (ok : okG n off lev) (hs : sg = 1 ∨ sg = -1) (hn : 0 < n) (h : (uO n off sg (n - 1) : Rat) ≤ x) : Lo n off lev sg x = vO n lev sg (n - 1) := by
  unfold Lo vO
  unfold uO at h
  rcases hs with rfl | rfl
  · have e : ixO n 1 (n - 1) = n - 1 := by simp [ixO]
    rw [e] at h ⊢
    rw [show ((1 : Int) : Rat) * x = x by grind]
    exact GrQ_hi ok hn (by grind)
  · have e : ixO n (-1) (n - 1) = 0 := by simp [ixO]
    rw [e] at h ⊢
    rw [show ((-1 : Int) : Rat) * x = -x by grind]
    exact GrQ_lo ok hn (by grind)
theorem Lo_mid {n i : Nat} {off lev : Nat → Int} {sg : Int} {x : Rat} (ok : okG n off lev) (hs : sg = 1 ∨ sg = -1) (hi : i + 1 < n) (h1 : (uO n off sg i : Rat) ≤ x) (h2 : x ≤ uO n off sg (i + 1)) : Lo n off lev sg x = vO n lev sg i + (vO n lev sg (i + 1) - vO n lev sg i) * (x - uO n off sg i) / (uO n off sg (i + 1) - uO n off sg i) := by
  unfold Lo vO
  unfold uO at h1 h2 ⊢
  rcases hs with rfl | rfl
  · have e : ixO n 1 i = i := by simp [ixO]
    have e2 : ixO n 1 (i + 1) = i + 1 := by simp [ixO]
    rw [e] at h1 ⊢
    rw [e2] at h2 ⊢
    have nz := cast_ne (ok.2.2.2 i (i + 1) (by omega) hi)
    rw [show ((1 : Int) : Rat) * x = x by grind, GrQ_mid ok hi (by grind) (by grind)]
    grind
  · have e : ixO n (-1) i = n - 1 - i := by simp [ixO]
    have e2 : ixO n (-1) (i + 1) = n - 1 - (i + 1) := by simp [ixO]
    have e3 : n - 1 - i = n - 1 - (i + 1) + 1 := by omega
    rw [e, e3] at h1 ⊢
    rw [e2] at h2 ⊢
    have nz := cast_ne (ok.2.2.2 (n - 1 - (i + 1)) (n - 1 - (i + 1) + 1) (by omega) (by omega))
    rw [show ((-1 : Int) : Rat) * x = -x by grind, GrQ_mid ok (i := n - 1 - (i + 1)) (by omega) (by grind) (by grind)]
    generalize off (n - 1 - (i + 1)) = a at *
    generalize off (n - 1 - (i + 1) + 1) = b at *
    grind
/-! WHERE A SLOPE MEETS THE GROUND -/
theorem q_mul_nn {a b : Rat} (ha : 0 ≤ a) (hb : 0 ≤ b) : 0 ≤ a * b := Rat.mul_nonneg ha hb
theorem q_inv_nn {a : Rat} (ha : 0 < a) : 0 ≤ a⁻¹ := Rat.le_of_lt (Rat.inv_pos.mpr ha)
theorem q_div_nn {a b : Rat} (ha : 0 ≤ a) (hb : 0 < b) : 0 ≤ a / b := by
  rw [Rat.div_def]
  exact q_mul_nn ha (q_inv_nn hb)
theorem lin_root {p q a b e : Rat} (hpq : p < q) (ha : 0 ≤ a) (hb : b ≤ 0) (hab : b < a) (he : e = p + a * ((q - p) / (a - b))) : p ≤ e ∧ e ≤ q ∧ a * (q - p) = (a - b) * (e - p) := by
  have h0 : 0 < a - b := by grind
  have h1 : 0 ≤ (q - p) / (a - b) := q_div_nn (by grind) h0
  have h2 := q_mul_nn ha h1
  have h3 := q_mul_nn (show 0 ≤ -b by grind) h1
  have h4 : (a - b) * ((q - p) / (a - b)) = q - p := by grind
  refine ⟨by grind, by grind, by grind⟩
def lfS (n : Nat) (off lev : Nat → Int) (sg out high way up ov : Int) (j : Nat) : Int := way * ov * (1000 * vO n lev sg j - high) - 1000 * up * (uO n off sg j - out)
def slE (n : Nat) (off lev : Nat → Int) (sg out high way up ov : Int) (t : Rat) : Rat := way * (Lo n off lev sg t - high / 1000) - (up : Rat) / ov * (t - out)
theorem slE_at {n j : Nat} {off lev : Nat → Int} {sg out high way up ov : Int} (ok : okG n off lev) (hs : sg = 1 ∨ sg = -1) (h : j < n) (hv : 0 < ov) : slE n off lev sg out high way up ov (uO n off sg j) = (lfS n off lev sg out high way up ov j : Rat) / (1000 * ov) := by
  unfold slE lfS
  rw [Lo_at ok hs h]
  have : (ov : Rat) ≠ 0 := by
    intro q
    have : ov = 0 := by exact_mod_cast q
    omega
  generalize uO n off sg j = a
  generalize vO n lev sg j = b
  grind
def plS (n : Nat) (off : Nat → Int) (sg out : Int) (j : Nat) : Int := if j = kO n off sg out then out else uO n off sg (j - 1)
/-- the end of a slope as the walker finds it, its step at j -/
def enS (n : Nat) (off lev : Nat → Int) (sg out high way up ov : Int) (j : Nat) : Rat := if j < n then (plS n off sg out j : Rat) + slE n off lev sg out high way up ov (plS n off sg out j) * ((uO n off sg j - plS n off sg out j) / (slE n off lev sg out high way up ov (plS n off sg out j) - slE n off lev sg out high way up ov (uO n off sg j))) else (plS n off sg out j : Rat) + slE n off lev sg out high way up ov (plS n off sg out j) * (ov / up)
def slH (n : Nat) (off lev : Nat → Int) (sg out high way up ov : Int) (j : Nat) : Prop :=
  (okG n off lev) ∧
  (sg = 1 ∨ sg = -1) ∧
  (0 < up) ∧
  (0 < ov) ∧
  ((way = 1 ∧ (high : Rat) / 1000 < Lo n off lev sg out) ∨ (way = -1 ∧ Lo n off lev sg out < (high : Rat) / 1000) ∨ (way = 0 ∧ Lo n off lev sg out = (high : Rat) / 1000)) ∧
  (kO n off sg out ≤ j) ∧
  (j ≤ n) ∧
  (∀ i, kO n off sg out ≤ i → i < j → 0 < lfS n off lev sg out high way up ov i) ∧
  (j < n → lfS n off lev sg out high way up ov j ≤ 0)
theorem slH.ok {n : Nat} {off lev : Nat → Int} {sg out high way up ov : Int} {j : Nat} (zz : slH n off lev sg out high way up ov j) : okG n off lev := zz.1
theorem slH.hs {n : Nat} {off lev : Nat → Int} {sg out high way up ov : Int} {j : Nat} (zz : slH n off lev sg out high way up ov j) : sg = 1 ∨ sg = -1 := zz.2.1
theorem slH.hu {n : Nat} {off lev : Nat → Int} {sg out high way up ov : Int} {j : Nat} (zz : slH n off lev sg out high way up ov j) : 0 < up := zz.2.2.1
theorem slH.hv {n : Nat} {off lev : Nat → Int} {sg out high way up ov : Int} {j : Nat} (zz : slH n off lev sg out high way up ov j) : 0 < ov := zz.2.2.2.1
theorem slH.hw {n : Nat} {off lev : Nat → Int} {sg out high way up ov : Int} {j : Nat} (zz : slH n off lev sg out high way up ov j) : (way = 1 ∧ (high : Rat) / 1000 < Lo n off lev sg out) ∨ (way = -1 ∧ Lo n off lev sg out < (high : Rat) / 1000) ∨ (way = 0 ∧ Lo n off lev sg out = (high : Rat) / 1000) := zz.2.2.2.2.1
theorem slH.k0 {n : Nat} {off lev : Nat → Int} {sg out high way up ov : Int} {j : Nat} (zz : slH n off lev sg out high way up ov j) : kO n off sg out ≤ j := zz.2.2.2.2.2.1
theorem slH.jn {n : Nat} {off lev : Nat → Int} {sg out high way up ov : Int} {j : Nat} (zz : slH n off lev sg out high way up ov j) : j ≤ n := zz.2.2.2.2.2.2.1
theorem slH.bey {n : Nat} {off lev : Nat → Int} {sg out high way up ov : Int} {j : Nat} (zz : slH n off lev sg out high way up ov j) : ∀ i, kO n off sg out ≤ i → i < j → 0 < lfS n off lev sg out high way up ov i := zz.2.2.2.2.2.2.2.1
theorem slH.stop {n : Nat} {off lev : Nat → Int} {sg out high way up ov : Int} {j : Nat} (zz : slH n off lev sg out high way up ov j) : j < n → lfS n off lev sg out high way up ov j ≤ 0 := zz.2.2.2.2.2.2.2.2
section SLP
variable {n : Nat} {off lev : Nat → Int} {sg out high way up ov : Int} {j : Nat}
theorem q_pos {a : Int} (h : 0 < a) : 0 < (a : Rat) := Rat.intCast_pos.mpr h
theorem slH.pl_out (S : slH n off lev sg out high way up ov j) : out ≤ plS n off sg out j := by
  have s := gk_spec n (uO n off sg) out
  unfold plS
  split
  · omega
  · rename_i c
    have k0 := S.k0
    have jn := S.jn
    unfold kO at c k0
    by_cases e : gk n (uO n off sg) out = j - 1
    · have := s.2.2 (by omega)
      rw [e] at this
      omega
    · have a := s.2.2 (by omega)
      have b := uO_mono S.ok S.hs (i := gk n (uO n off sg) out) (j := j - 1) (by omega) (by omega)
      omega
theorem slH.pl_lt (S : slH n off lev sg out high way up ov j) (h : j < n) : plS n off sg out j < uO n off sg j := by
  have s := gk_spec n (uO n off sg) out
  unfold plS
  split
  · rename_i c
    rw [c] at h ⊢
    exact s.2.2 h
  · rename_i c
    have k0 := S.k0
    exact uO_mono S.ok S.hs (by omega) h
theorem slH.pl_ge (S : slH n off lev sg out high way up ov j) (h : 0 < j) : uO n off sg (j - 1) ≤ plS n off sg out j := by
  have s := gk_spec n (uO n off sg) out
  unfold plS
  split
  · rename_i c
    exact s.2.1 (j - 1) (by unfold kO at c; omega)
  · omega
theorem slH.E_pl (S : slH n off lev sg out high way up ov j) : 0 ≤ slE n off lev sg out high way up ov (plS n off sg out j) ∧ (j = kO n off sg out ∨ 0 < slE n off lev sg out high way up ov (plS n off sg out j)) := by
  unfold plS
  split
  · rename_i c
    refine ⟨?_, Or.inl c⟩
    unfold slE
    rcases S.hw with ⟨rfl, h⟩ | ⟨rfl, h⟩ | ⟨rfl, h⟩ <;> grind
  · rename_i c
    have k0 := S.k0
    have jn := S.jn
    have b := S.bey (j - 1) (by omega) (by omega)
    rw [slE_at S.ok S.hs (by omega) S.hv]
    have hv := q_pos S.hv
    have hp : 0 < (lfS n off lev sg out high way up ov (j - 1) : Rat) := q_pos b
    have : 0 < (lfS n off lev sg out high way up ov (j - 1) : Rat) / (1000 * ov) := by
      rw [Rat.div_def]
      exact Rat.mul_pos hp (Rat.inv_pos.mpr (by grind))
    exact ⟨Rat.le_of_lt this, Or.inr this⟩
theorem slH.E_lt (S : slH n off lev sg out high way up ov j) (h : j < n) : slE n off lev sg out high way up ov (uO n off sg j) ≤ 0 ∧ slE n off lev sg out high way up ov (uO n off sg j) < slE n off lev sg out high way up ov (plS n off sg out j) := by
  have a := S.E_pl
  have st := S.stop h
  have hv := q_pos S.hv
  have hu := q_pos S.hu
  have e := slE_at (out := out) (high := high) (way := way) (up := up) S.ok S.hs h S.hv
  have le : slE n off lev sg out high way up ov (uO n off sg j) ≤ 0 := by
    rw [e]
    have : (lfS n off lev sg out high way up ov j : Rat) ≤ 0 := by exact_mod_cast st
    have := q_div_nn (a := -(lfS n off lev sg out high way up ov j : Rat)) (b := 1000 * ov) (by grind) (by grind)
    grind
  refine ⟨le, ?_⟩
  rcases a.2 with c | c
  · rcases S.hw with ⟨rfl, w⟩ | ⟨rfl, w⟩ | ⟨rfl, w⟩
    · have : 0 < slE n off lev sg out high 1 up ov (plS n off sg out j) := by
        unfold slE plS
        rw [if_pos c]
        grind
      grind
    · have : 0 < slE n off lev sg out high (-1) up ov (plS n off sg out j) := by
        unfold slE plS
        rw [if_pos c]
        grind
      grind
    · have p := S.pl_lt h
      have p2 := S.pl_out
      have : slE n off lev sg out high 0 up ov (uO n off sg j) < 0 := by
        unfold slE
        have h1 : 0 < (uO n off sg j : Rat) - out := by
          have : (out : Rat) < uO n off sg j := Rat.intCast_lt_intCast.mpr (by omega)
          grind
        have h2 : 0 < (up : Rat) / ov * (uO n off sg j - out) := by
          rw [Rat.div_def]
          exact Rat.mul_pos (Rat.mul_pos hu (Rat.inv_pos.mpr hv)) h1
        grind
      grind
  · grind
end SLP
theorem slope_alg {q r v x z out high way up ov : Rat} (nz : q - r ≠ 0) (hv : ov ≠ 0) (dn : (v - x) * ov - way * up * (q - r) ≠ 0) (l1 : x + (v - x) * (z - r) / (q - r) = high / 1000 + way * up / ov * (z - out)) : z - out = ((high - 1000 * x) * (q - r) + 1000 * (v - x) * (r - out)) / 1000 * (ov / ((v - x) * ov - way * up * (q - r))) := by
  have s1 : ((v - x) * (z - r) / (q - r)) * (q - r) = (v - x) * (z - r) := by grind
  have s2 : (way * up / ov * (z - out)) * ov = way * up * (z - out) := by grind
  have s3 : (x * (q - r) + (v - x) * (z - r)) * ov = (high / 1000 * ov + way * up * (z - out)) * (q - r) := by
    generalize (v - x) * (z - r) / (q - r) = A at *
    generalize way * up / ov * (z - out) = B at *
    grind
  have s4 : (z - out) * ((v - x) * ov - way * up * (q - r)) = ((high - 1000 * x) * (q - r) + 1000 * (v - x) * (r - out)) / 1000 * ov := by
    clear s1 s2 l1 dn
    grind
  generalize (v - x) * ov - way * up * (q - r) = D at *
  generalize (high - 1000 * x) * (q - r) + 1000 * (v - x) * (r - out) = A at *
  clear s1 s2 s3 l1
  grind
section SLP2
variable {n : Nat} {off lev : Nat → Int} {sg out high way up ov : Int} {j : Nat}
theorem slH.lin (S : slH n off lev sg out high way up ov j) (h : j < n) {t : Rat} (h1 : (plS n off sg out j : Rat) ≤ t) (h2 : t ≤ uO n off sg j) : ((uO n off sg j : Rat) - plS n off sg out j) * (slE n off lev sg out high way up ov t - slE n off lev sg out high way up ov (plS n off sg out j)) = (slE n off lev sg out high way up ov (uO n off sg j) - slE n off lev sg out high way up ov (plS n off sg out j)) * (t - plS n off sg out j) := by
  have hv : (ov : Rat) ≠ 0 := by have := q_pos S.hv; grind
  have pq : (plS n off sg out j : Rat) < uO n off sg j := Rat.intCast_lt_intCast.mpr (S.pl_lt h)
  unfold slE
  by_cases j0 : j = 0
  · subst j0
    rw [Lo_first S.ok S.hs (by omega) h2, Lo_first S.ok S.hs (by omega) (Rat.le_of_lt pq), Lo_first S.ok S.hs (by omega) (Rat.le_refl)]
    generalize (plS n off sg out 0) = p
    generalize (uO n off sg 0) = q
    generalize (vO n lev sg 0) = v
    grind
  · have e : j - 1 + 1 = j := by omega
    have ge : (uO n off sg (j - 1) : Rat) ≤ plS n off sg out j := Rat.intCast_le_intCast.mpr (S.pl_ge (by omega))
    have m := fun t a b => Lo_mid (x := t) S.ok S.hs (i := j - 1) (by omega) a b
    rw [e] at m
    rw [m t (by grind) h2, m _ ge (Rat.le_of_lt pq), m _ (by grind) Rat.le_refl]
    have nz : (uO n off sg j : Rat) - uO n off sg (j - 1) ≠ 0 := by grind
    generalize (plS n off sg out j : Rat) = p at *
    generalize (uO n off sg j : Rat) = q at *
    generalize (uO n off sg (j - 1) : Rat) = r at *
    generalize (vO n lev sg j : Rat) = v at *
    generalize (vO n lev sg (j - 1) : Rat) = w at *
    grind
/-- the ground is level behind the last point -/
theorem slH.beyond (S : slH n off lev sg out high way up ov j) (h : j = n) {t : Rat} (h1 : (plS n off sg out j : Rat) ≤ t) : Lo n off lev sg t = Lo n off lev sg (plS n off sg out j) := by
  by_cases n0 : n = 0
  · subst n0
    rw [Lo_none, Lo_none]
  · have ge : (uO n off sg (n - 1) : Rat) ≤ plS n off sg out j := Rat.intCast_le_intCast.mpr (h ▸ S.pl_ge (by omega))
    rw [Lo_last S.ok S.hs (by omega) ge, Lo_last S.ok S.hs (by omega) (Rat.le_trans ge h1)]
theorem slH.root (S : slH n off lev sg out high way up ov j) : (plS n off sg out j : Rat) ≤ enS n off lev sg out high way up ov j ∧ (j < n → enS n off lev sg out high way up ov j ≤ uO n off sg j) ∧ slE n off lev sg out high way up ov (enS n off lev sg out high way up ov j) = 0 := by
  have hv := q_pos S.hv
  have hu := q_pos S.hu
  by_cases h : j < n
  · have pq : (plS n off sg out j : Rat) < uO n off sg j := Rat.intCast_lt_intCast.mpr (S.pl_lt h)
    have r := lin_root pq S.E_pl.1 (S.E_lt h).1 (S.E_lt h).2 (e := enS n off lev sg out high way up ov j) (by unfold enS; rw [if_pos h])
    have l := S.lin h r.1 r.2.1
    refine ⟨r.1, fun _ => r.2.1, ?_⟩
    have r3 := r.2.2
    generalize enS n off lev sg out high way up ov j = e at *
    generalize slE n off lev sg out high way up ov e = z at *
    generalize slE n off lev sg out high way up ov (plS n off sg out j) = a at *
    generalize slE n off lev sg out high way up ov (uO n off sg j) = b at *
    generalize (plS n off sg out j : Rat) = p at *
    generalize (uO n off sg j : Rat) = q at *
    grind
  · have jn : j = n := by have := S.jn; omega
    have a := S.E_pl.1
    have ep : (0 : Rat) ≤ slE n off lev sg out high way up ov (plS n off sg out j) * (ov / up) := q_mul_nn a (q_div_nn (Rat.le_of_lt hv) hu)
    have ee : enS n off lev sg out high way up ov j = (plS n off sg out j : Rat) + slE n off lev sg out high way up ov (plS n off sg out j) * (ov / up) := by unfold enS; rw [if_neg h]
    have b := S.beyond jn (t := enS n off lev sg out high way up ov j) (by grind)
    refine ⟨by grind, fun q => absurd q h, ?_⟩
    unfold slE at ee ⊢
    rw [b]
    generalize enS n off lev sg out high way up ov j = e at *
    generalize Lo n off lev sg (plS n off sg out j) = z at *
    generalize (plS n off sg out j : Rat) = p at *
    generalize (up : Rat) = x at *
    generalize (ov : Rat) = y at *
    grind
/-- the end lies on the ground, and out -/
theorem slH.level (S : slH n off lev sg out high way up ov j) : Lo n off lev sg (enS n off lev sg out high way up ov j) = (high : Rat) / 1000 + way * up / ov * (enS n off lev sg out high way up ov j - out) ∧ (out : Rat) ≤ enS n off lev sg out high way up ov j := by
  have hv := q_pos S.hv
  have hu := q_pos S.hu
  have r := S.root
  have po : (out : Rat) ≤ plS n off sg out j := Rat.intCast_le_intCast.mpr S.pl_out
  refine ⟨?_, Rat.le_trans po r.1⟩
  rcases S.hw with ⟨rfl, w⟩ | ⟨rfl, w⟩ | ⟨rfl, w⟩
  · have := r.2.2
    unfold slE at this
    grind
  · have := r.2.2
    unfold slE at this
    grind
  · have h2 := r.2.2
    unfold slE at h2
    have : enS n off lev sg out high 0 up ov j = out := by
      generalize enS n off lev sg out high 0 up ov j = e at *
      grind
    rw [this, w]
    grind
def aS (n : Nat) (off lev : Nat → Int) (sg out high : Int) (j : Nat) : Int := if 0 < j ∧ j < n then (high - 1000 * vO n lev sg (j - 1)) * (uO n off sg j - uO n off sg (j - 1)) + 1000 * (vO n lev sg j - vO n lev sg (j - 1)) * (uO n off sg (j - 1) - out) else high - 1000 * (if n = 0 then 0 else vO n lev sg (if j = 0 then 0 else j - 1))
def dS (n : Nat) (off lev : Nat → Int) (sg way up ov : Int) (j : Nat) : Int := if 0 < j ∧ j < n then (vO n lev sg j - vO n lev sg (j - 1)) * ov - way * up * (uO n off sg j - uO n off sg (j - 1)) else -(way * up)
/-- the same end as the reference finds it -/
theorem slH.ref (S : slH n off lev sg out high way up ov j) (w0 : way ≠ 0) : dS n off lev sg way up ov j ≠ 0 ∧ enS n off lev sg out high way up ov j - out = (aS n off lev sg out high j : Rat) / 1000 * ((ov : Rat) / dS n off lev sg way up ov j) := by
  have hv := q_pos S.hv
  have hu := q_pos S.hu
  have r := S.root
  have l := S.level
  by_cases c : 0 < j ∧ j < n
  · have e : j - 1 + 1 = j := by omega
    have ge : (uO n off sg (j - 1) : Rat) ≤ plS n off sg out j := Rat.intCast_le_intCast.mpr (S.pl_ge (by omega))
    have pq : (plS n off sg out j : Rat) < uO n off sg j := Rat.intCast_lt_intCast.mpr (S.pl_lt c.2)
    have m := fun t a b => Lo_mid (x := t) S.ok S.hs (i := j - 1) (by omega) a b
    rw [e] at m
    have me := m _ (Rat.le_trans ge r.1) (r.2.1 c.2)
    have mp := m _ ge (Rat.le_of_lt pq)
    have mq := m _ (by grind) Rat.le_refl
    have ab := (S.E_lt c.2).2
    unfold slE at ab
    rw [mp, mq] at ab
    have nz : (uO n off sg j : Rat) - uO n off sg (j - 1) ≠ 0 := by grind
    have dn : (dS n off lev sg way up ov j : Rat) ≠ 0 := by
      unfold dS
      rw [if_pos c]
      rcases S.hw with ⟨rfl, w⟩ | ⟨rfl, w⟩ | ⟨rfl, w⟩
      · generalize uO n off sg j = q at *
        generalize uO n off sg (j - 1) = r at *
        generalize vO n lev sg j = v at *
        generalize vO n lev sg (j - 1) = x at *
        generalize plS n off sg out j = p at *
        clear me mp mq m l r
        intro hq
        have : (v - x : Rat) * ov = up * (q - r) := by grind
        have : (v - x : Rat) / (q - r) = up / ov := by grind
        have e2 : ((1 : Int) : Rat) * (x + (v - x) * (q - r) / (q - r) - high / 1000) - up / ov * (q - out) = ((1 : Int) : Rat) * (x + (v - x) * (p - r) / (q - r) - high / 1000) - up / ov * (p - out) := by grind
        rw [e2] at ab
        exact absurd ab Rat.lt_irrefl
      · generalize uO n off sg j = q at *
        generalize uO n off sg (j - 1) = r at *
        generalize vO n lev sg j = v at *
        generalize vO n lev sg (j - 1) = x at *
        generalize plS n off sg out j = p at *
        clear me mp mq m l r
        intro hq
        have : (v - x : Rat) * ov = - up * (q - r) := by grind
        have : (v - x : Rat) / (q - r) = - up / ov := by grind
        have e2 : ((-1 : Int) : Rat) * (x + (v - x) * (q - r) / (q - r) - high / 1000) - up / ov * (q - out) = ((-1 : Int) : Rat) * (x + (v - x) * (p - r) / (q - r) - high / 1000) - up / ov * (p - out) := by grind
        rw [e2] at ab
        exact absurd ab Rat.lt_irrefl
      · exact absurd rfl w0
    refine ⟨fun q => dn (by rw [q]; rfl), ?_⟩
    rw [me] at l
    have l1 := l.1
    unfold dS at dn ⊢
    unfold aS
    rw [if_pos c] at dn ⊢
    rw [if_pos c]
    generalize enS n off lev sg out high way up ov j = z at *
    generalize uO n off sg j = q at *
    generalize uO n off sg (j - 1) = r at *
    generalize vO n lev sg j = v at *
    generalize vO n lev sg (j - 1) = x at *
    clear me mp mq m l ab pq ge
    have dn2 : ((v - x) * ov - way * up * (q - r) : Rat) ≠ 0 := by
      intro hq
      apply dn
      grind
    have s := slope_alg nz (show (ov : Rat) ≠ 0 by grind) dn2 l1
    have s5 : (((high - 1000 * x) * (q - r) + 1000 * (v - x) * (r - out) : Int) : Rat) = ((high - 1000 * x) * (q - r) + 1000 * (v - x) * (r - out) : Rat) := by grind
    have s6 : (((v - x) * ov - way * up * (q - r) : Int) : Rat) = ((v - x) * ov - way * up * (q - r) : Rat) := by grind
    rw [s5, s6]
    exact s
  · have lev0 : Lo n off lev sg (enS n off lev sg out high way up ov j) = (if n = 0 then 0 else vO n lev sg (if j = 0 then 0 else j - 1) : Int) := by
      by_cases n0 : n = 0
      · subst n0
        rw [Lo_none, if_pos rfl]; rfl
      · rw [if_neg n0]
        by_cases j0 : j = 0
        · subst j0
          rw [if_pos rfl]
          exact Lo_first S.ok S.hs (by omega) (r.2.1 (by omega))
        · have jn : j = n := by have := S.jn; omega
          rw [if_neg j0]
          have ge : (uO n off sg (n - 1) : Rat) ≤ plS n off sg out j := Rat.intCast_le_intCast.mpr (jn ▸ S.pl_ge (by omega))
          rw [Lo_last S.ok S.hs (by omega) (Rat.le_trans ge r.1), jn]
    rw [lev0] at l
    have l1 := l.1
    unfold dS aS
    rw [if_neg c, if_neg c]
    generalize (if n = 0 then 0 else vO n lev sg (if j = 0 then 0 else j - 1) : Int) = y at *
    generalize enS n off lev sg out high way up ov j = z at *
    have hu' := S.hu
    rcases S.hw with ⟨rfl, w⟩ | ⟨rfl, w⟩ | ⟨rfl, w⟩
    · refine ⟨by omega, ?_⟩
      clear r l w lev0
      grind
    · refine ⟨by omega, ?_⟩
      clear r l w lev0
      grind
    · exact absurd rfl w0
end SLP2
/-- where the walker stops looking -/
def slJ (n : Nat) (off lev : Nat → Int) (sg out high way up ov : Int) : Nat → Nat → Nat
  | 0, j => j
  | m + 1, j => if lfS n off lev sg out high way up ov j ≤ 0 then j else slJ n off lev sg out high way up ov m (j + 1)
def jS (n : Nat) (off lev : Nat → Int) (sg out high way up ov : Int) : Nat := slJ n off lev sg out high way up ov (n - kO n off sg out) (kO n off sg out)
theorem slJ_spec {n : Nat} {off lev : Nat → Int} {sg out high way up ov : Int} : ∀ m j, j ≤ slJ n off lev sg out high way up ov m j ∧ slJ n off lev sg out high way up ov m j ≤ j + m ∧ (∀ i, j ≤ i → i < slJ n off lev sg out high way up ov m j → 0 < lfS n off lev sg out high way up ov i) ∧ (slJ n off lev sg out high way up ov m j < j + m → lfS n off lev sg out high way up ov (slJ n off lev sg out high way up ov m j) ≤ 0)
  | 0, j => ⟨Nat.le_refl _, Nat.le_refl _, fun i a b => by simp only [slJ] at b; omega, fun q => by simp only [slJ] at q; omega⟩
  | m + 1, j => by
    unfold slJ
    by_cases c : lfS n off lev sg out high way up ov j ≤ 0
    · rw [if_pos c]
      exact ⟨Nat.le_refl _, by omega, fun i a b => by omega, fun _ => c⟩
    · rw [if_neg c]
      obtain ⟨a1, a2, a3, a4⟩ := slJ_spec (n := n) (off := off) (lev := lev) (sg := sg) (out := out) (high := high) (way := way) (up := up) (ov := ov) m (j + 1)
      refine ⟨by omega, by omega, fun i h1 h2 => ?_, fun q => a4 (by omega)⟩
      by_cases e : i = j
      · subst e; omega
      · exact a3 i (by omega) h2
theorem jS_stop {n : Nat} {off lev : Nat → Int} {sg out high way up ov : Int} {j : Nat} (h0 : kO n off sg out ≤ j) (hj : j ≤ n) (hb : ∀ i, kO n off sg out ≤ i → i < j → 0 < lfS n off lev sg out high way up ov i) (hs : j < n → lfS n off lev sg out high way up ov j ≤ 0) : jS n off lev sg out high way up ov = j := by
  have kn : kO n off sg out ≤ n := (gk_spec n (uO n off sg) out).1
  have s := slJ_spec (n := n) (off := off) (lev := lev) (sg := sg) (out := out) (high := high) (way := way) (up := up) (ov := ov) (n - kO n off sg out) (kO n off sg out)
  unfold jS
  generalize slJ n off lev sg out high way up ov (n - kO n off sg out) (kO n off sg out) = z at *
  rcases Nat.lt_trichotomy z j with c | c | c
  · have a := s.2.2.2 (by omega)
    have b := hb z (by omega) c
    omega
  · exact c
  · have a := s.2.2.1 j (by omega) c
    have b := hs (by omega)
    omega
theorem gap_Lo {n : Nat} {off lev : Nat → Int} {sg out high : Int} (ok : okG n off lev) : ((1000 * gU n off lev (sg * out) - high * gL n off (sg * out) : Int) : Rat) = 1000 * gL n off (sg * out) * (Lo n off lev sg out - high / 1000) := by
  have g := gL_in (o := sg * out) ok
  have e := GrQ_int (o := sg * out) ok
  have e2 : Lo n off lev sg out = Rat.divInt (gU n off lev (sg * out)) (gL n off (sg * out)) := by
    rw [e]
    unfold Lo
    congr 1
    grind
  rw [e2, divQ]
  have gp : (0 : Rat) < gL n off (sg * out) := q_pos (by omega)
  generalize gL n off (sg * out) = L at *
  generalize gU n off lev (sg * out) = U at *
  grind
theorem slH_of {n : Nat} {off lev : Nat → Int} {sg out high way up ov : Int} (ok : okG n off lev) (hs : sg = 1 ∨ sg = -1) (hu : 0 < up) (hv : 0 < ov) (hw : way = (1000 * gU n off lev (sg * out) - high * gL n off (sg * out)).sign) : slH n off lev sg out high way up ov (jS n off lev sg out high way up ov) := by
  have kn : kO n off sg out ≤ n := (gk_spec n (uO n off sg) out).1
  have s := slJ_spec (n := n) (off := off) (lev := lev) (sg := sg) (out := out) (high := high) (way := way) (up := up) (ov := ov) (n - kO n off sg out) (kO n off sg out)
  have g := gL_in (o := sg * out) ok
  have e := gap_Lo (sg := sg) (out := out) (high := high) ok
  have gp : (0 : Rat) < gL n off (sg * out) := q_pos (by omega)
  refine ⟨ok, hs, hu, hv, ?_, s.1, by unfold jS; omega, s.2.2.1, fun q => s.2.2.2 (by unfold jS at q; omega)⟩
  generalize 1000 * gU n off lev (sg * out) - high * gL n off (sg * out) = G at *
  generalize gL n off (sg * out) = L at *
  rcases Int.lt_trichotomy G 0 with c | c | c
  · refine Or.inr (Or.inl ⟨by rw [hw, Int.sign_eq_neg_one_of_neg c], ?_⟩)
    have cq : (G : Rat) < 0 := by
      have := q_pos (a := -G) (by omega)
      grind
    refine Rat.not_le.mp (fun q => ?_)
    have := q_mul_nn (a := 1000 * (L : Rat)) (b := Lo n off lev sg out - high / 1000) (by grind) (by grind)
    grind
  · refine Or.inr (Or.inr ⟨by rw [hw, c]; rfl, ?_⟩)
    rw [c] at e
    have nz : (1000 * (L : Rat)) ≠ 0 := by grind
    have z : 1000 * (L : Rat) * (Lo n off lev sg out - high / 1000) = 0 := by grind
    rcases Rat.mul_eq_zero.mp z with q | q
    · exact absurd q nz
    · grind
  · refine Or.inl ⟨by rw [hw, Int.sign_eq_one_of_pos c], ?_⟩
    have cq : 0 < (G : Rat) := q_pos c
    refine Rat.not_le.mp (fun q => ?_)
    have := q_mul_nn (a := 1000 * (L : Rat)) (b := high / 1000 - Lo n off lev sg out) (by grind) (by grind)
    grind
theorem slE_out {n : Nat} {off lev : Nat → Int} {sg out high way up ov : Int} (ok : okG n off lev) (hw : way = (1000 * gU n off lev (sg * out) - high * gL n off (sg * out)).sign) : slE n off lev sg out high way up ov out = Rat.divInt ((1000 * gU n off lev (sg * out) - high * gL n off (sg * out)).natAbs : Int) (1000 * gL n off (sg * out)) := by
  have g := gL_in (o := sg * out) ok
  have e := gap_Lo (sg := sg) (out := out) (high := high) ok
  have gp : (0 : Rat) < gL n off (sg * out) := q_pos (by omega)
  unfold slE
  rw [divQ]
  generalize 1000 * gU n off lev (sg * out) - high * gL n off (sg * out) = G at *
  generalize gL n off (sg * out) = L at *
  generalize Lo n off lev sg out = y at *
  have e1 : ((1000 * L : Int) : Rat) = 1000 * (L : Rat) := by grind
  rw [e1]
  have n1 : (way : Rat) * G = (G.natAbs : Int) := by
    rw [← Rat.intCast_mul]
    congr 1
    rw [hw]
    rcases Int.lt_trichotomy G 0 with c | c | c
    · rw [Int.sign_eq_neg_one_of_neg c]; omega
    · rw [c]; rfl
    · rw [Int.sign_eq_one_of_pos c]; omega
  rw [← n1, e]
  grind
theorem gk_is {n : Nat} {u : Nat → Int} (mono : ∀ i j, i < j → j < n → u i < u j) {x : Int} {k : Nat} (hk : k ≤ n) (h1 : 0 < k → u (k - 1) ≤ x) (h2 : k < n → x < u k) : gk n u x = k := by
  have s := gk_spec n u x
  generalize gk n u x = m at *
  rcases Nat.lt_trichotomy m k with c | c | c
  · have a := s.2.2 (by omega)
    have b := h1 (by omega)
    by_cases e : m = k - 1
    · rw [e] at a; omega
    · have := mono m (k - 1) (by omega) (by omega)
      omega
  · exact c
  · have a := s.2.1 k c
    have b := h2 (by omega)
    omega
theorem kO_pl {n : Nat} {off lev : Nat → Int} {sg out : Int} {j : Nat} (ok : okG n off lev) (hs : sg = 1 ∨ sg = -1) (h0 : kO n off sg out ≤ j) (hj : j ≤ n) : kO n off sg (plS n off sg out j) = j := by
  unfold plS
  split
  · rename_i c; exact c.symm
  · unfold kO
    exact gk_is (fun i j a b => uO_mono ok hs a b) hj (fun _ => Int.le_refl _) (fun q => uO_mono ok hs (by omega) q)
theorem plS_in {n : Nat} {off lev : Nat → Int} {sg out : Int} {j : Nat} (ok : okG n off lev) (hs : sg = 1 ∨ sg = -1) (ho : 0 ≤ out ∧ out ≤ 2000000) (h0 : kO n off sg out ≤ j) (hj : j ≤ n) : 0 ≤ plS n off sg out j ∧ plS n off sg out j ≤ 2000000 := by
  have s := gk_spec n (uO n off sg) out
  have u := uO_in (j := j - 1) ok hs
  unfold plS
  split
  · exact ho
  · rename_i c
    refine ⟨?_, by omega⟩
    unfold kO at c h0
    by_cases e : gk n (uO n off sg) out = j - 1
    · have := s.2.2 (by omega)
      rw [e] at this
      omega
    · have a := s.2.2 (by omega)
      have b := uO_mono ok hs (i := gk n (uO n off sg) out) (j := j - 1) (by omega) (by omega)
      omega
theorem vO_in {n j : Nat} {off lev : Nat → Int} {sg : Int} (ok : okG n off lev) : -100000 ≤ vO n lev sg j ∧ vO n lev sg j ≤ 100000 := ok.2.2.1 _
/-- how large an end's parts are -/
theorem slH.size {n : Nat} {off lev : Nat → Int} {sg out high way up ov : Int} {j : Nat} (S : slH n off lev sg out high way up ov j) (ho : 0 ≤ out ∧ out ≤ 2000000) (hh : -200000000000 ≤ high ∧ high ≤ 200000000000) (hu : up ≤ 99999) (hv : ov ≤ 99999) : ∃ a d : Int, enS n off lev sg out high way up ov j = (a : Rat) / (d : Rat) ∧ 0 < d ∧ d ≤ 60000000000000 ∧ -10000000000000000000000 ≤ a ∧ a ≤ 10000000000000000000000 := by
  have hu0 := S.hu
  have hv0 := S.hv
  by_cases w0 : way = 0
  · have l := S.level.2
    have r := S.root
    have e : enS n off lev sg out high way up ov j = out := by
      have h2 := r.2.2
      unfold slE at h2
      have hvq := q_pos S.hv
      have huq := q_pos S.hu
      rw [w0] at h2 ⊢
      generalize enS n off lev sg out high 0 up ov j = e at *
      grind
    exact ⟨out, 1, by rw [e]; grind, by omega, by omega, by omega, by omega⟩
  · obtain ⟨d0, e⟩ := S.ref w0
    have wi : way = 1 ∨ way = -1 := by
      rcases S.hw with ⟨q, -⟩ | ⟨q, -⟩ | ⟨q, -⟩ <;> omega
    have u1 := uO_in (j := j) S.ok S.hs
    have u2 := uO_in (j := j - 1) S.ok S.hs
    have v1 := vO_in (j := j) (sg := sg) S.ok
    have v2 := vO_in (j := j - 1) (sg := sg) S.ok
    have v0 := vO_in (j := if j = 0 then 0 else j - 1) (sg := sg) S.ok
    have A : -60000000000000000 ≤ aS n off lev sg out high j ∧ aS n off lev sg out high j ≤ 60000000000000000 := by
      unfold aS
      split
      · have m1 := mulB (a := high - 1000 * vO n lev sg (j - 1)) (b := uO n off sg j - uO n off sg (j - 1)) (A := 200100000000) (B := 200000) (by omega) (by omega)
        have m2 := mulB (a := 1000 * (vO n lev sg j - vO n lev sg (j - 1))) (b := uO n off sg (j - 1) - out) (A := 200000000) (B := 2200000) (by omega) (by omega)
        omega
      · split <;> omega
    have D : -60000000000 ≤ dS n off lev sg way up ov j ∧ dS n off lev sg way up ov j ≤ 60000000000 := by
      unfold dS
      split
      · have m1 := mulB (a := vO n lev sg j - vO n lev sg (j - 1)) (b := ov) (A := 200000) (B := 99999) (by omega) (by omega)
        have m2 := mulB (a := way * up) (b := uO n off sg j - uO n off sg (j - 1)) (A := 99999) (B := 200000) (by rcases wi with rfl | rfl <;> omega) (by omega)
        omega
      · rcases wi with rfl | rfl <;> omega
    generalize aS n off lev sg out high j = a at *
    generalize dS n off lev sg way up ov j = d at *
    have m3 := mulB (a := a) (b := ov) (A := 60000000000000000) (B := 99999) A (by omega)
    have m4 := mulB (a := out) (b := 1000 * d) (A := 2000000) (B := 60000000000000) (by omega) (by omega)
    have dq : (d : Rat) ≠ 0 := fun q => d0 (by exact_mod_cast q)
    by_cases dp : 0 < d
    · refine ⟨out * (1000 * d) + a * ov, 1000 * d, ?_, by omega, by omega, by omega, by omega⟩
      generalize enS n off lev sg out high way up ov j = e at *
      grind
    · refine ⟨-(out * (1000 * d) + a * ov), -(1000 * d), ?_, by omega, by omega, by omega, by omega⟩
      generalize enS n off lev sg out high way up ov j = e at *
      grind
