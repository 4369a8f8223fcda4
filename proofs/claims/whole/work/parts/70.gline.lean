/-! THE GROUND'S LINE, over the rationals -/
def gkQF (off : Nat → Int) (x : Rat) : Nat → Nat → Nat
  | 0, i => i
  | m + 1, i => if (off i : Rat) ≤ x then gkQF off x m (i + 1) else i
def gkQ (n : Nat) (off : Nat → Int) (x : Rat) : Nat := gkQF off x n 0
theorem gkQF_spec {off : Nat → Int} {x : Rat} : ∀ (m i : Nat), i ≤ gkQF off x m i ∧ gkQF off x m i ≤ i + m ∧ (∀ j, i ≤ j → j < gkQF off x m i → (off j : Rat) ≤ x) ∧ (gkQF off x m i < i + m → ¬ (off (gkQF off x m i) : Rat) ≤ x)
  | 0, i => ⟨Nat.le_refl _, Nat.le_refl _, fun j a b => by simp only [gkQF] at b; omega, fun q => by simp only [gkQF] at q; omega⟩
  | m + 1, i => by
    unfold gkQF
    by_cases c : (off i : Rat) ≤ x
    · rw [if_pos c]
      obtain ⟨a1, a2, a3, a4⟩ := gkQF_spec (off := off) (x := x) m (i + 1)
      refine ⟨by omega, by omega, fun j h1 h2 => ?_, fun q => a4 (by omega)⟩
      by_cases e : j = i
      · subst e; exact c
      · exact a3 j (by omega) h2
    · rw [if_neg c]
      exact ⟨Nat.le_refl _, by omega, fun j h1 h2 => by omega, fun _ => c⟩
theorem gkQ_spec (n : Nat) (off : Nat → Int) (x : Rat) : gkQ n off x ≤ n ∧ (∀ j, j < gkQ n off x → (off j : Rat) ≤ x) ∧ (gkQ n off x < n → ¬ (off (gkQ n off x) : Rat) ≤ x) := by
  have := gkQF_spec (off := off) (x := x) n 0
  unfold gkQ
  refine ⟨by omega, fun j h => this.2.2.1 j (by omega) h, fun h => this.2.2.2 (by omega)⟩
theorem gkQF_int {off : Nat → Int} {o : Int} : ∀ m i, gkQF off (o : Rat) m i = gkF off o m i
  | 0, i => rfl
  | m + 1, i => by
    unfold gkQF gkF
    rw [gkQF_int m]
    by_cases c : off i ≤ o
    · rw [if_pos c, if_pos (Rat.intCast_le_intCast.mpr c)]
    · rw [if_neg c, if_neg (fun q => c (Rat.intCast_le_intCast.mp q))]
theorem gkQ_int (n : Nat) (off : Nat → Int) (o : Int) : gkQ n off (o : Rat) = gk n off o := gkQF_int n 0
/-- the ground's level at x -/
def GrQ (n : Nat) (off lev : Nat → Int) (x : Rat) : Rat := if n = 0 then 0 else if gkQ n off x = 0 then lev 0 else if gkQ n off x = n then lev (n - 1) else (x - off (gkQ n off x - 1)) * ((lev (gkQ n off x) - lev (gkQ n off x - 1) : Int) / (off (gkQ n off x) - off (gkQ n off x - 1) : Int)) + lev (gkQ n off x - 1)
theorem divQ (a b : Int) : Rat.divInt a b = (a : Rat) / (b : Rat) := Rat.divInt_eq_div a b
theorem cast_ne {a b : Int} (h : a < b) : ((b - a : Int) : Rat) ≠ 0 := by
  intro q
  have : b - a = 0 := by exact_mod_cast q
  omega
theorem GrQ_int {n : Nat} {off lev : Nat → Int} {o : Int} (ok : okG n off lev) : Rat.divInt (gU n off lev o) (gL n off o) = GrQ n off lev (o : Rat) := by
  have s := gk_spec n off o
  unfold gU gL GrQ
  rw [gkQ_int]
  generalize gk n off o = k at *
  by_cases n0 : n = 0
  · rw [if_pos n0, if_neg (by omega), if_pos n0]
    simp
  rw [if_neg n0, if_neg n0]
  by_cases k0 : k = 0
  · rw [if_pos k0, if_neg (by omega), if_pos k0, divQ]
    grind
  rw [if_neg k0, if_neg k0]
  by_cases kn : k = n
  · rw [if_pos (by omega), if_neg (by omega), if_pos kn, divQ, kn]
    grind
  · have h := cast_ne (ok.2.2.2 (k - 1) k (by omega) (by omega))
    rw [if_neg (by omega), if_pos (by omega), if_neg kn, divQ]
    generalize off k = a at *
    generalize off (k - 1) = b at *
    grind
theorem off_le {n : Nat} {off lev : Nat → Int} (ok : okG n off lev) {i j : Nat} (h : i ≤ j) (hj : j < n) : off i ≤ off j := by
  by_cases e : i = j
  · subst e; omega
  · have := ok.2.2.2 i j (by omega) hj; omega
theorem offQ_lt {n : Nat} {off lev : Nat → Int} (ok : okG n off lev) {i j : Nat} (h : i < j) (hj : j < n) : (off i : Rat) < off j := Rat.intCast_lt_intCast.mpr (ok.2.2.2 i j h hj)
theorem gkQ_is {n : Nat} {off lev : Nat → Int} (ok : okG n off lev) {x : Rat} {k : Nat} (hk : k ≤ n) (h1 : 0 < k → (off (k - 1) : Rat) ≤ x) (h2 : k < n → x < off k) : gkQ n off x = k := by
  have s := gkQ_spec n off x
  generalize gkQ n off x = m at *
  rcases Nat.lt_trichotomy m k with c | c | c
  · have a := s.2.2 (by omega)
    have b := h1 (by omega)
    by_cases e : m = k - 1
    · rw [e] at a; exact absurd b a
    · have := offQ_lt ok (i := m) (j := k - 1) (by omega) (by omega)
      exact absurd (Rat.le_trans (Rat.le_of_lt this) b) a
  · exact c
  · have a := s.2.1 k c
    have b := h2 (by omega)
    exact absurd a (Rat.not_le.mpr b)
theorem GrQ_at {n : Nat} {off lev : Nat → Int} (ok : okG n off lev) {i : Nat} (hi : i < n) : GrQ n off lev (off i : Rat) = lev i := by
  have k : gkQ n off (off i : Rat) = i + 1 := gkQ_is ok (by omega) (fun _ => by simp) (fun h => offQ_lt ok (by omega) h)
  unfold GrQ
  rw [k, if_neg (by omega), if_neg (by omega)]
  by_cases e : i + 1 = n
  · rw [if_pos e]
    simp [← e]
  · rw [if_neg e, Nat.add_sub_cancel]
    grind
theorem GrQ_lo {n : Nat} {off lev : Nat → Int} (ok : okG n off lev) {x : Rat} (hn : 0 < n) (h : x ≤ off 0) : GrQ n off lev x = lev 0 := by
  by_cases e : x = off 0
  · rw [e]; exact GrQ_at ok hn
  · have k : gkQ n off x = 0 := gkQ_is ok (by omega) (fun q => by omega) (fun _ => Rat.lt_of_le_of_ne h e)
    unfold GrQ
    rw [k, if_neg (by omega), if_pos rfl]
theorem GrQ_hi {n : Nat} {off lev : Nat → Int} (ok : okG n off lev) {x : Rat} (hn : 0 < n) (h : (off (n - 1) : Rat) ≤ x) : GrQ n off lev x = lev (n - 1) := by
  have k : gkQ n off x = n := gkQ_is ok (by omega) (fun q => h) (fun q => by omega)
  unfold GrQ
  rw [k, if_neg (by omega), if_neg (by omega), if_pos rfl]
theorem GrQ_mid {n : Nat} {off lev : Nat → Int} (ok : okG n off lev) {x : Rat} {i : Nat} (hi : i + 1 < n) (h1 : (off i : Rat) ≤ x) (h2 : x ≤ off (i + 1)) : GrQ n off lev x = lev i + (lev (i + 1) - lev i : Int) * (x - off i) / (off (i + 1) - off i : Int) := by
  have nz := cast_ne (ok.2.2.2 i (i + 1) (by omega) hi)
  by_cases e : x = off (i + 1)
  · rw [e, GrQ_at ok hi]
    generalize off i = a at *
    generalize off (i + 1) = b at *
    grind
  · have k : gkQ n off x = i + 1 := gkQ_is ok (by omega) (fun q => h1) (fun _ => Rat.lt_of_le_of_ne h2 e)
    unfold GrQ
    rw [k, if_neg (by omega), if_neg (by omega), if_neg (by omega), Nat.add_sub_cancel]
    generalize off i = a at *
    generalize off (i + 1) = b at *
    grind
/-! THE GROUND, SEEN OUTWARD ON A SIDE -/
def ixO (n : Nat) (sg : Int) (j : Nat) : Nat := if sg = 1 then j else n - 1 - j
def uO (n : Nat) (off : Nat → Int) (sg : Int) (j : Nat) : Int := sg * off (ixO n sg j)
def vO (n : Nat) (lev : Nat → Int) (sg : Int) (j : Nat) : Int := lev (ixO n sg j)
theorem ixO_lt {n j : Nat} {sg : Int} (h : j < n) : ixO n sg j < n := by unfold ixO; split <;> omega
theorem uO_mono {n : Nat} {off lev : Nat → Int} {sg : Int} (ok : okG n off lev) (hs : sg = 1 ∨ sg = -1) {i j : Nat} (h : i < j) (hj : j < n) : uO n off sg i < uO n off sg j := by
  unfold uO ixO
  rcases hs with rfl | rfl
  · have := ok.2.2.2 i j h hj
    simp; omega
  · have := ok.2.2.2 (n - 1 - j) (n - 1 - i) (by omega) (by omega)
    simp; omega
theorem uO_in {n j : Nat} {off lev : Nat → Int} {sg : Int} (ok : okG n off lev) (hs : sg = 1 ∨ sg = -1) : -100000 ≤ uO n off sg j ∧ uO n off sg j ≤ 100000 := by
  have := ok.2.1 (ixO n sg j)
  unfold uO
  rcases hs with rfl | rfl <;> omega
/-- how many points are not beyond pl on the side -/
def kO (n : Nat) (off : Nat → Int) (sg pl : Int) : Nat := gk n (uO n off sg) pl
theorem gN_spec (off : Nat → Int) (sg pl : Int) : ∀ m : Nat, (gN off sg pl m = -1 ∧ ∀ i, i < m → ¬ pl < sg * off i) ∨ (0 ≤ gN off sg pl m ∧ gN off sg pl m < m ∧ pl < sg * off (gN off sg pl m).toNat ∧ ∀ i, i < m → pl < sg * off i → sg * off (gN off sg pl m).toNat ≤ sg * off i)
  | 0 => Or.inl ⟨rfl, fun i h => by omega⟩
  | m + 1 => by
    have ih := gN_spec off sg pl m
    unfold gN
    by_cases c : pl < sg * off m ∧ (gN off sg pl m < 0 ∨ sg * off m < sg * off (gN off sg pl m).toNat)
    · rw [if_pos c]
      refine Or.inr ⟨by omega, by omega, by simpa using c.1, fun i hi hp => ?_⟩
      rw [Int.toNat_natCast]
      by_cases e : i = m
      · subst e; omega
      · rcases ih with ⟨_, a⟩ | ⟨_, _, _, a⟩
        · exact absurd hp (a i (by omega))
        · have := a i (by omega) hp
          omega
    · rw [if_neg c]
      rcases ih with ⟨a0, a⟩ | ⟨a0, a1, a2, a⟩
      · refine Or.inl ⟨a0, fun i hi => ?_⟩
        by_cases e : i = m
        · subst e; omega
        · exact a i (by omega)
      · refine Or.inr ⟨a0, by omega, a2, fun i hi hp => ?_⟩
        by_cases e : i = m
        · subst e; omega
        · exact a i (by omega) hp
theorem ixO_surj {n i : Nat} {sg : Int} (h : i < n) : ∃ j, j < n ∧ ixO n sg j = i := by
  by_cases c : sg = 1
  · exact ⟨i, h, by simp [ixO, c]⟩
  · exact ⟨n - 1 - i, by omega, by simp [ixO, c]; omega⟩
theorem gN_kO {n : Nat} {off lev : Nat → Int} {sg pl : Int} (ok : okG n off lev) (hs : sg = 1 ∨ sg = -1) : (kO n off sg pl < n ∧ gN off sg pl n = ixO n sg (kO n off sg pl)) ∨ (kO n off sg pl = n ∧ gN off sg pl n = -1) := by
  have s := gk_spec n (uO n off sg) pl
  have g := gN_spec off sg pl n
  unfold kO
  generalize gk n (uO n off sg) pl = k at *
  by_cases c : k < n
  · have a := s.2.2 c
    have kl := ixO_lt (sg := sg) c
    rcases g with ⟨_, b⟩ | ⟨b0, b1, b2, b⟩
    · exact absurd a (b _ kl)
    · refine Or.inl ⟨c, ?_⟩
      have e := b _ kl a
      obtain ⟨j, j1, j2⟩ := ixO_surj (n := n) (sg := sg) (i := (gN off sg pl n).toNat) (by omega)
      have hj : j = k := by
        rcases Nat.lt_trichotomy j k with q | q | q
        · have := s.2.1 j q
          unfold uO at this
          rw [j2] at this
          omega
        · exact q
        · have := uO_mono ok hs q j1
          unfold uO at this
          rw [j2] at this
          omega
      rw [← hj, j2]
      omega
  · rcases g with ⟨b0, b⟩ | ⟨b0, b1, b2, b⟩
    · exact Or.inr ⟨by omega, b0⟩
    · obtain ⟨j, j1, j2⟩ := ixO_surj (n := n) (sg := sg) (i := (gN off sg pl n).toNat) (by omega)
      have := s.2.1 j (by omega)
      unfold uO at this
      rw [j2] at this
      omega
/-- the ground's level at o out on the side -/
def Lo (n : Nat) (off lev : Nat → Int) (sg : Int) (x : Rat) : Rat := GrQ n off lev (sg * x)
theorem Lo_at {n j : Nat} {off lev : Nat → Int} {sg : Int} (ok : okG n off lev) (hs : sg = 1 ∨ sg = -1) (h : j < n) : Lo n off lev sg (uO n off sg j) = vO n lev sg j := by
  have e : ((sg : Rat) * (uO n off sg j : Rat)) = off (ixO n sg j) := by
    unfold uO
    rcases hs with rfl | rfl <;> grind
  unfold Lo vO
  rw [e]
  exact GrQ_at ok (ixO_lt h)
theorem Lo_none {off lev : Nat → Int} {sg : Int} {x : Rat} : Lo 0 off lev sg x = 0 := by simp [Lo, GrQ]
theorem Lo_first {n : Nat} {off lev : Nat → Int} {sg : Int} {x : Rat} (ok : okG n off lev) (hs : sg = 1 ∨ sg = -1) (hn : 0 < n) (h : x ≤ uO n off sg 0) : Lo n off lev sg x = vO n lev sg 0 := by
  unfold Lo vO
  unfold uO at h
  rcases hs with rfl | rfl
  · have e : ixO n 1 0 = 0 := by simp [ixO]
    rw [e] at h ⊢
    rw [show ((1 : Int) : Rat) * x = x by grind]
    exact GrQ_lo ok hn (by grind)
  · have e : ixO n (-1) 0 = n - 1 := by simp [ixO]
    rw [e] at h ⊢
    rw [show ((-1 : Int) : Rat) * x = -x by grind]
    exact GrQ_hi ok hn (by grind)
theorem Lo_last {n : Nat} {off lev : Nat → Int} {sg : Int} {x : Rat} (ok : okG n off lev) (hs : sg = 1 ∨ sg = -1) (hn : 0 < n) (h : (uO n off sg (n - 1) : Rat) ≤ x) : Lo n off lev sg x = vO n lev sg (n - 1) := by
  unfold Lo vO
  unfold uO at h
  rcases hs with rfl | rfl
  · have e : ixO n 1 (n - 1) = n - 1 := by simp [ixO]
    rw [e] at h ⊢
    rw [show ((1 : Int) : Rat) * x = x by grind]
    exact GrQ_hi ok hn (by grind)
  · have e : ixO n (-1) (n - 1) = 0 := by simp [ixO]
    rw [e] at h ⊢
    rw [show ((-1 : Int) : Rat) * x = -x by grind]
    exact GrQ_lo ok hn (by grind)
theorem Lo_mid {n i : Nat} {off lev : Nat → Int} {sg : Int} {x : Rat} (ok : okG n off lev) (hs : sg = 1 ∨ sg = -1) (hi : i + 1 < n) (h1 : (uO n off sg i : Rat) ≤ x) (h2 : x ≤ uO n off sg (i + 1)) : Lo n off lev sg x = vO n lev sg i + (vO n lev sg (i + 1) - vO n lev sg i) * (x - uO n off sg i) / (uO n off sg (i + 1) - uO n off sg i) := by
  unfold Lo vO
  unfold uO at h1 h2 ⊢
  rcases hs with rfl | rfl
  · have e : ixO n 1 i = i := by simp [ixO]
    have e2 : ixO n 1 (i + 1) = i + 1 := by simp [ixO]
    rw [e] at h1 ⊢
    rw [e2] at h2 ⊢
    have nz := cast_ne (ok.2.2.2 i (i + 1) (by omega) hi)
    rw [show ((1 : Int) : Rat) * x = x by grind, GrQ_mid ok hi (by grind) (by grind)]
    grind
  · have e : ixO n (-1) i = n - 1 - i := by simp [ixO]
    have e2 : ixO n (-1) (i + 1) = n - 1 - (i + 1) := by simp [ixO]
    have e3 : n - 1 - i = n - 1 - (i + 1) + 1 := by omega
    rw [e, e3] at h1 ⊢
    rw [e2] at h2 ⊢
    have nz := cast_ne (ok.2.2.2 (n - 1 - (i + 1)) (n - 1 - (i + 1) + 1) (by omega) (by omega))
    rw [show ((-1 : Int) : Rat) * x = -x by grind, GrQ_mid ok (i := n - 1 - (i + 1)) (by omega) (by grind) (by grind)]
    generalize off (n - 1 - (i + 1)) = a at *
    generalize off (n - 1 - (i + 1) + 1) = b at *
    grind
/-! WHERE A SLOPE MEETS THE GROUND -/
theorem q_mul_nn {a b : Rat} (ha : 0 ≤ a) (hb : 0 ≤ b) : 0 ≤ a * b := Rat.mul_nonneg ha hb
theorem q_inv_nn {a : Rat} (ha : 0 < a) : 0 ≤ a⁻¹ := Rat.le_of_lt (Rat.inv_pos.mpr ha)
theorem q_div_nn {a b : Rat} (ha : 0 ≤ a) (hb : 0 < b) : 0 ≤ a / b := by
  rw [Rat.div_def]
  exact q_mul_nn ha (q_inv_nn hb)
theorem lin_root {p q a b e : Rat} (hpq : p < q) (ha : 0 ≤ a) (hb : b ≤ 0) (hab : b < a) (he : e = p + a * ((q - p) / (a - b))) : p ≤ e ∧ e ≤ q ∧ a * (q - p) = (a - b) * (e - p) := by
  have h0 : 0 < a - b := by grind
  have h1 : 0 ≤ (q - p) / (a - b) := q_div_nn (by grind) h0
  have h2 := q_mul_nn ha h1
  have h3 := q_mul_nn (show 0 ≤ -b by grind) h1
  have h4 : (a - b) * ((q - p) / (a - b)) = q - p := by grind
  refine ⟨by grind, by grind, by grind⟩
def lfS (n : Nat) (off lev : Nat → Int) (sg out high way up ov : Int) (j : Nat) : Int := way * ov * (1000 * vO n lev sg j - high) - 1000 * up * (uO n off sg j - out)
def slE (n : Nat) (off lev : Nat → Int) (sg out high way up ov : Int) (t : Rat) : Rat := way * (Lo n off lev sg t - high / 1000) - (up : Rat) / ov * (t - out)
theorem slE_at {n j : Nat} {off lev : Nat → Int} {sg out high way up ov : Int} (ok : okG n off lev) (hs : sg = 1 ∨ sg = -1) (h : j < n) (hv : 0 < ov) : slE n off lev sg out high way up ov (uO n off sg j) = (lfS n off lev sg out high way up ov j : Rat) / (1000 * ov) := by
  unfold slE lfS
  rw [Lo_at ok hs h]
  have : (ov : Rat) ≠ 0 := by
    intro q
    have : ov = 0 := by exact_mod_cast q
    omega
  generalize uO n off sg j = a
  generalize vO n lev sg j = b
  grind
def plS (n : Nat) (off : Nat → Int) (sg out : Int) (j : Nat) : Int := if j = kO n off sg out then out else uO n off sg (j - 1)
/-- the end of a slope as the walker finds it, its step at j -/
def enS (n : Nat) (off lev : Nat → Int) (sg out high way up ov : Int) (j : Nat) : Rat := if j < n then (plS n off sg out j : Rat) + slE n off lev sg out high way up ov (plS n off sg out j) * ((uO n off sg j - plS n off sg out j) / (slE n off lev sg out high way up ov (plS n off sg out j) - slE n off lev sg out high way up ov (uO n off sg j))) else (plS n off sg out j : Rat) + slE n off lev sg out high way up ov (plS n off sg out j) * (ov / up)
def slH (n : Nat) (off lev : Nat → Int) (sg out high way up ov : Int) (j : Nat) : Prop :=
  (okG n off lev) ∧
  (sg = 1 ∨ sg = -1) ∧
  (0 < up) ∧
  (0 < ov) ∧
  ((way = 1 ∧ (high : Rat) / 1000 < Lo n off lev sg out) ∨ (way = -1 ∧ Lo n off lev sg out < (high : Rat) / 1000) ∨ (way = 0 ∧ Lo n off lev sg out = (high : Rat) / 1000)) ∧
  (kO n off sg out ≤ j) ∧
  (j ≤ n) ∧
  (∀ i, kO n off sg out ≤ i → i < j → 0 < lfS n off lev sg out high way up ov i) ∧
  (j < n → lfS n off lev sg out high way up ov j ≤ 0)
theorem slH.ok {n : Nat} {off lev : Nat → Int} {sg out high way up ov : Int} {j : Nat} (w : slH n off lev sg out high way up ov j) : okG n off lev := w.1
theorem slH.hs {n : Nat} {off lev : Nat → Int} {sg out high way up ov : Int} {j : Nat} (w : slH n off lev sg out high way up ov j) : sg = 1 ∨ sg = -1 := w.2.1
theorem slH.hu {n : Nat} {off lev : Nat → Int} {sg out high way up ov : Int} {j : Nat} (w : slH n off lev sg out high way up ov j) : 0 < up := w.2.2.1
theorem slH.hv {n : Nat} {off lev : Nat → Int} {sg out high way up ov : Int} {j : Nat} (w : slH n off lev sg out high way up ov j) : 0 < ov := w.2.2.2.1
theorem slH.hw {n : Nat} {off lev : Nat → Int} {sg out high way up ov : Int} {j : Nat} (w : slH n off lev sg out high way up ov j) : (way = 1 ∧ (high : Rat) / 1000 < Lo n off lev sg out) ∨ (way = -1 ∧ Lo n off lev sg out < (high : Rat) / 1000) ∨ (way = 0 ∧ Lo n off lev sg out = (high : Rat) / 1000) := w.2.2.2.2.1
theorem slH.k0 {n : Nat} {off lev : Nat → Int} {sg out high way up ov : Int} {j : Nat} (w : slH n off lev sg out high way up ov j) : kO n off sg out ≤ j := w.2.2.2.2.2.1
theorem slH.jn {n : Nat} {off lev : Nat → Int} {sg out high way up ov : Int} {j : Nat} (w : slH n off lev sg out high way up ov j) : j ≤ n := w.2.2.2.2.2.2.1
theorem slH.bey {n : Nat} {off lev : Nat → Int} {sg out high way up ov : Int} {j : Nat} (w : slH n off lev sg out high way up ov j) : ∀ i, kO n off sg out ≤ i → i < j → 0 < lfS n off lev sg out high way up ov i := w.2.2.2.2.2.2.2.1
theorem slH.stop {n : Nat} {off lev : Nat → Int} {sg out high way up ov : Int} {j : Nat} (w : slH n off lev sg out high way up ov j) : j < n → lfS n off lev sg out high way up ov j ≤ 0 := w.2.2.2.2.2.2.2.2
section SLP
variable {n : Nat} {off lev : Nat → Int} {sg out high way up ov : Int} {j : Nat}
theorem q_pos {a : Int} (h : 0 < a) : 0 < (a : Rat) := Rat.intCast_pos.mpr h
theorem slH.pl_out (S : slH n off lev sg out high way up ov j) : out ≤ plS n off sg out j := by
  have s := gk_spec n (uO n off sg) out
  unfold plS
  split
  · omega
  · rename_i c
    have k0 := S.k0
    have jn := S.jn
    unfold kO at c k0
    by_cases e : gk n (uO n off sg) out = j - 1
    · have := s.2.2 (by omega)
      rw [e] at this
      omega
    · have a := s.2.2 (by omega)
      have b := uO_mono S.ok S.hs (i := gk n (uO n off sg) out) (j := j - 1) (by omega) (by omega)
      omega
theorem slH.pl_lt (S : slH n off lev sg out high way up ov j) (h : j < n) : plS n off sg out j < uO n off sg j := by
  have s := gk_spec n (uO n off sg) out
  unfold plS
  split
  · rename_i c
    rw [c] at h ⊢
    exact s.2.2 h
  · rename_i c
    have k0 := S.k0
    exact uO_mono S.ok S.hs (by omega) h
theorem slH.pl_ge (S : slH n off lev sg out high way up ov j) (h : 0 < j) : uO n off sg (j - 1) ≤ plS n off sg out j := by
  have s := gk_spec n (uO n off sg) out
  unfold plS
  split
  · rename_i c
    exact s.2.1 (j - 1) (by unfold kO at c; omega)
  · omega
theorem slH.E_pl (S : slH n off lev sg out high way up ov j) : 0 ≤ slE n off lev sg out high way up ov (plS n off sg out j) ∧ (j = kO n off sg out ∨ 0 < slE n off lev sg out high way up ov (plS n off sg out j)) := by
  unfold plS
  split
  · rename_i c
    refine ⟨?_, Or.inl c⟩
    unfold slE
    rcases S.hw with ⟨rfl, h⟩ | ⟨rfl, h⟩ | ⟨rfl, h⟩ <;> grind
  · rename_i c
    have k0 := S.k0
    have jn := S.jn
    have b := S.bey (j - 1) (by omega) (by omega)
    rw [slE_at S.ok S.hs (by omega) S.hv]
    have hv := q_pos S.hv
    have hp : 0 < (lfS n off lev sg out high way up ov (j - 1) : Rat) := q_pos b
    have : 0 < (lfS n off lev sg out high way up ov (j - 1) : Rat) / (1000 * ov) := by
      rw [Rat.div_def]
      exact Rat.mul_pos hp (Rat.inv_pos.mpr (by grind))
    exact ⟨Rat.le_of_lt this, Or.inr this⟩
theorem slH.E_lt (S : slH n off lev sg out high way up ov j) (h : j < n) : slE n off lev sg out high way up ov (uO n off sg j) ≤ 0 ∧ slE n off lev sg out high way up ov (uO n off sg j) < slE n off lev sg out high way up ov (plS n off sg out j) := by
  have a := S.E_pl
  have st := S.stop h
  have hv := q_pos S.hv
  have hu := q_pos S.hu
  have e := slE_at (out := out) (high := high) (way := way) (up := up) S.ok S.hs h S.hv
  have le : slE n off lev sg out high way up ov (uO n off sg j) ≤ 0 := by
    rw [e]
    have : (lfS n off lev sg out high way up ov j : Rat) ≤ 0 := by exact_mod_cast st
    have := q_div_nn (a := -(lfS n off lev sg out high way up ov j : Rat)) (b := 1000 * ov) (by grind) (by grind)
    grind
  refine ⟨le, ?_⟩
  rcases a.2 with c | c
  · rcases S.hw with ⟨rfl, w⟩ | ⟨rfl, w⟩ | ⟨rfl, w⟩
    · have : 0 < slE n off lev sg out high 1 up ov (plS n off sg out j) := by
        unfold slE plS
        rw [if_pos c]
        grind
      grind
    · have : 0 < slE n off lev sg out high (-1) up ov (plS n off sg out j) := by
        unfold slE plS
        rw [if_pos c]
        grind
      grind
    · have p := S.pl_lt h
      have p2 := S.pl_out
      have : slE n off lev sg out high 0 up ov (uO n off sg j) < 0 := by
        unfold slE
        have h1 : 0 < (uO n off sg j : Rat) - out := by
          have : (out : Rat) < uO n off sg j := Rat.intCast_lt_intCast.mpr (by omega)
          grind
        have h2 : 0 < (up : Rat) / ov * (uO n off sg j - out) := by
          rw [Rat.div_def]
          exact Rat.mul_pos (Rat.mul_pos hu (Rat.inv_pos.mpr hv)) h1
        grind
      grind
  · grind
end SLP
theorem slope_alg {q r v x z out high way up ov : Rat} (nz : q - r ≠ 0) (hv : ov ≠ 0) (dn : (v - x) * ov - way * up * (q - r) ≠ 0) (l1 : x + (v - x) * (z - r) / (q - r) = high / 1000 + way * up / ov * (z - out)) : z - out = ((high - 1000 * x) * (q - r) + 1000 * (v - x) * (r - out)) / 1000 * (ov / ((v - x) * ov - way * up * (q - r))) := by
  have s1 : ((v - x) * (z - r) / (q - r)) * (q - r) = (v - x) * (z - r) := by grind
  have s2 : (way * up / ov * (z - out)) * ov = way * up * (z - out) := by grind
  have s3 : (x * (q - r) + (v - x) * (z - r)) * ov = (high / 1000 * ov + way * up * (z - out)) * (q - r) := by
    generalize (v - x) * (z - r) / (q - r) = A at *
    generalize way * up / ov * (z - out) = B at *
    grind
  have s4 : (z - out) * ((v - x) * ov - way * up * (q - r)) = ((high - 1000 * x) * (q - r) + 1000 * (v - x) * (r - out)) / 1000 * ov := by
    clear s1 s2 l1 dn
    grind
  generalize (v - x) * ov - way * up * (q - r) = D at *
  generalize (high - 1000 * x) * (q - r) + 1000 * (v - x) * (r - out) = A at *
  clear s1 s2 s3 l1
  grind
section SLP2
variable {n : Nat} {off lev : Nat → Int} {sg out high way up ov : Int} {j : Nat}
theorem slH.lin (S : slH n off lev sg out high way up ov j) (h : j < n) {t : Rat} (h1 : (plS n off sg out j : Rat) ≤ t) (h2 : t ≤ uO n off sg j) : ((uO n off sg j : Rat) - plS n off sg out j) * (slE n off lev sg out high way up ov t - slE n off lev sg out high way up ov (plS n off sg out j)) = (slE n off lev sg out high way up ov (uO n off sg j) - slE n off lev sg out high way up ov (plS n off sg out j)) * (t - plS n off sg out j) := by
  have hv : (ov : Rat) ≠ 0 := by have := q_pos S.hv; grind
  have pq : (plS n off sg out j : Rat) < uO n off sg j := Rat.intCast_lt_intCast.mpr (S.pl_lt h)
  unfold slE
  by_cases j0 : j = 0
  · subst j0
    rw [Lo_first S.ok S.hs (by omega) h2, Lo_first S.ok S.hs (by omega) (Rat.le_of_lt pq), Lo_first S.ok S.hs (by omega) (Rat.le_refl)]
    generalize (plS n off sg out 0) = p
    generalize (uO n off sg 0) = q
    generalize (vO n lev sg 0) = v
    grind
  · have e : j - 1 + 1 = j := by omega
    have ge : (uO n off sg (j - 1) : Rat) ≤ plS n off sg out j := Rat.intCast_le_intCast.mpr (S.pl_ge (by omega))
    have m := fun t a b => Lo_mid (x := t) S.ok S.hs (i := j - 1) (by omega) a b
    rw [e] at m
    rw [m t (by grind) h2, m _ ge (Rat.le_of_lt pq), m _ (by grind) Rat.le_refl]
    have nz : (uO n off sg j : Rat) - uO n off sg (j - 1) ≠ 0 := by grind
    generalize (plS n off sg out j : Rat) = p at *
    generalize (uO n off sg j : Rat) = q at *
    generalize (uO n off sg (j - 1) : Rat) = r at *
    generalize (vO n lev sg j : Rat) = v at *
    generalize (vO n lev sg (j - 1) : Rat) = w at *
    grind
/-- the ground is level behind the last point -/
theorem slH.beyond (S : slH n off lev sg out high way up ov j) (h : j = n) {t : Rat} (h1 : (plS n off sg out j : Rat) ≤ t) : Lo n off lev sg t = Lo n off lev sg (plS n off sg out j) := by
  by_cases n0 : n = 0
  · subst n0
    rw [Lo_none, Lo_none]
  · have ge : (uO n off sg (n - 1) : Rat) ≤ plS n off sg out j := Rat.intCast_le_intCast.mpr (h ▸ S.pl_ge (by omega))
    rw [Lo_last S.ok S.hs (by omega) ge, Lo_last S.ok S.hs (by omega) (Rat.le_trans ge h1)]
theorem slH.root (S : slH n off lev sg out high way up ov j) : (plS n off sg out j : Rat) ≤ enS n off lev sg out high way up ov j ∧ (j < n → enS n off lev sg out high way up ov j ≤ uO n off sg j) ∧ slE n off lev sg out high way up ov (enS n off lev sg out high way up ov j) = 0 := by
  have hv := q_pos S.hv
  have hu := q_pos S.hu
  by_cases h : j < n
  · have pq : (plS n off sg out j : Rat) < uO n off sg j := Rat.intCast_lt_intCast.mpr (S.pl_lt h)
    have r := lin_root pq S.E_pl.1 (S.E_lt h).1 (S.E_lt h).2 (e := enS n off lev sg out high way up ov j) (by unfold enS; rw [if_pos h])
    have l := S.lin h r.1 r.2.1
    refine ⟨r.1, fun _ => r.2.1, ?_⟩
    have r3 := r.2.2
    generalize enS n off lev sg out high way up ov j = e at *
    generalize slE n off lev sg out high way up ov e = z at *
    generalize slE n off lev sg out high way up ov (plS n off sg out j) = a at *
    generalize slE n off lev sg out high way up ov (uO n off sg j) = b at *
    generalize (plS n off sg out j : Rat) = p at *
    generalize (uO n off sg j : Rat) = q at *
    grind
  · have jn : j = n := by have := S.jn; omega
    have a := S.E_pl.1
    have ep : (0 : Rat) ≤ slE n off lev sg out high way up ov (plS n off sg out j) * (ov / up) := q_mul_nn a (q_div_nn (Rat.le_of_lt hv) hu)
    have ee : enS n off lev sg out high way up ov j = (plS n off sg out j : Rat) + slE n off lev sg out high way up ov (plS n off sg out j) * (ov / up) := by unfold enS; rw [if_neg h]
    have b := S.beyond jn (t := enS n off lev sg out high way up ov j) (by grind)
    refine ⟨by grind, fun q => absurd q h, ?_⟩
    unfold slE at ee ⊢
    rw [b]
    generalize enS n off lev sg out high way up ov j = e at *
    generalize Lo n off lev sg (plS n off sg out j) = z at *
    generalize (plS n off sg out j : Rat) = p at *
    generalize (up : Rat) = x at *
    generalize (ov : Rat) = y at *
    grind
/-- the end lies on the ground, and out -/
theorem slH.level (S : slH n off lev sg out high way up ov j) : Lo n off lev sg (enS n off lev sg out high way up ov j) = (high : Rat) / 1000 + way * up / ov * (enS n off lev sg out high way up ov j - out) ∧ (out : Rat) ≤ enS n off lev sg out high way up ov j := by
  have hv := q_pos S.hv
  have hu := q_pos S.hu
  have r := S.root
  have po : (out : Rat) ≤ plS n off sg out j := Rat.intCast_le_intCast.mpr S.pl_out
  refine ⟨?_, Rat.le_trans po r.1⟩
  rcases S.hw with ⟨rfl, w⟩ | ⟨rfl, w⟩ | ⟨rfl, w⟩
  · have := r.2.2
    unfold slE at this
    grind
  · have := r.2.2
    unfold slE at this
    grind
  · have h2 := r.2.2
    unfold slE at h2
    have : enS n off lev sg out high 0 up ov j = out := by
      generalize enS n off lev sg out high 0 up ov j = e at *
      grind
    rw [this, w]
    grind
def aS (n : Nat) (off lev : Nat → Int) (sg out high : Int) (j : Nat) : Int := if 0 < j ∧ j < n then (high - 1000 * vO n lev sg (j - 1)) * (uO n off sg j - uO n off sg (j - 1)) + 1000 * (vO n lev sg j - vO n lev sg (j - 1)) * (uO n off sg (j - 1) - out) else high - 1000 * (if n = 0 then 0 else vO n lev sg (if j = 0 then 0 else j - 1))
def dS (n : Nat) (off lev : Nat → Int) (sg way up ov : Int) (j : Nat) : Int := if 0 < j ∧ j < n then (vO n lev sg j - vO n lev sg (j - 1)) * ov - way * up * (uO n off sg j - uO n off sg (j - 1)) else -(way * up)
/-- the same end as the reference finds it -/
theorem slH.ref (S : slH n off lev sg out high way up ov j) (w0 : way ≠ 0) : dS n off lev sg way up ov j ≠ 0 ∧ enS n off lev sg out high way up ov j - out = (aS n off lev sg out high j : Rat) / 1000 * ((ov : Rat) / dS n off lev sg way up ov j) := by
  have hv := q_pos S.hv
  have hu := q_pos S.hu
  have r := S.root
  have l := S.level
  by_cases c : 0 < j ∧ j < n
  · have e : j - 1 + 1 = j := by omega
    have ge : (uO n off sg (j - 1) : Rat) ≤ plS n off sg out j := Rat.intCast_le_intCast.mpr (S.pl_ge (by omega))
    have pq : (plS n off sg out j : Rat) < uO n off sg j := Rat.intCast_lt_intCast.mpr (S.pl_lt c.2)
    have m := fun t a b => Lo_mid (x := t) S.ok S.hs (i := j - 1) (by omega) a b
    rw [e] at m
    have me := m _ (Rat.le_trans ge r.1) (r.2.1 c.2)
    have mp := m _ ge (Rat.le_of_lt pq)
    have mq := m _ (by grind) Rat.le_refl
    have ab := (S.E_lt c.2).2
    unfold slE at ab
    rw [mp, mq] at ab
    have nz : (uO n off sg j : Rat) - uO n off sg (j - 1) ≠ 0 := by grind
    have dn : (dS n off lev sg way up ov j : Rat) ≠ 0 := by
      unfold dS
      rw [if_pos c]
      rcases S.hw with ⟨rfl, w⟩ | ⟨rfl, w⟩ | ⟨rfl, w⟩
      · generalize uO n off sg j = q at *
        generalize uO n off sg (j - 1) = r at *
        generalize vO n lev sg j = v at *
        generalize vO n lev sg (j - 1) = x at *
        generalize plS n off sg out j = p at *
        clear me mp mq m l r
        intro hq
        have : (v - x : Rat) * ov = up * (q - r) := by grind
        have : (v - x : Rat) / (q - r) = up / ov := by grind
        have e2 : ((1 : Int) : Rat) * (x + (v - x) * (q - r) / (q - r) - high / 1000) - up / ov * (q - out) = ((1 : Int) : Rat) * (x + (v - x) * (p - r) / (q - r) - high / 1000) - up / ov * (p - out) := by grind
        rw [e2] at ab
        exact absurd ab Rat.lt_irrefl
      · generalize uO n off sg j = q at *
        generalize uO n off sg (j - 1) = r at *
        generalize vO n lev sg j = v at *
        generalize vO n lev sg (j - 1) = x at *
        generalize plS n off sg out j = p at *
        clear me mp mq m l r
        intro hq
        have : (v - x : Rat) * ov = - up * (q - r) := by grind
        have : (v - x : Rat) / (q - r) = - up / ov := by grind
        have e2 : ((-1 : Int) : Rat) * (x + (v - x) * (q - r) / (q - r) - high / 1000) - up / ov * (q - out) = ((-1 : Int) : Rat) * (x + (v - x) * (p - r) / (q - r) - high / 1000) - up / ov * (p - out) := by grind
        rw [e2] at ab
        exact absurd ab Rat.lt_irrefl
      · exact absurd rfl w0
    refine ⟨fun q => dn (by rw [q]; rfl), ?_⟩
    rw [me] at l
    have l1 := l.1
    unfold dS at dn ⊢
    unfold aS
    rw [if_pos c] at dn ⊢
    rw [if_pos c]
    generalize enS n off lev sg out high way up ov j = z at *
    generalize uO n off sg j = q at *
    generalize uO n off sg (j - 1) = r at *
    generalize vO n lev sg j = v at *
    generalize vO n lev sg (j - 1) = x at *
    clear me mp mq m l ab pq ge
    have dn2 : ((v - x) * ov - way * up * (q - r) : Rat) ≠ 0 := by
      intro hq
      apply dn
      grind
    have s := slope_alg nz (show (ov : Rat) ≠ 0 by grind) dn2 l1
    have s5 : (((high - 1000 * x) * (q - r) + 1000 * (v - x) * (r - out) : Int) : Rat) = ((high - 1000 * x) * (q - r) + 1000 * (v - x) * (r - out) : Rat) := by grind
    have s6 : (((v - x) * ov - way * up * (q - r) : Int) : Rat) = ((v - x) * ov - way * up * (q - r) : Rat) := by grind
    rw [s5, s6]
    exact s
  · have lev0 : Lo n off lev sg (enS n off lev sg out high way up ov j) = (if n = 0 then 0 else vO n lev sg (if j = 0 then 0 else j - 1) : Int) := by
      by_cases n0 : n = 0
      · subst n0
        rw [Lo_none, if_pos rfl]; rfl
      · rw [if_neg n0]
        by_cases j0 : j = 0
        · subst j0
          rw [if_pos rfl]
          exact Lo_first S.ok S.hs (by omega) (r.2.1 (by omega))
        · have jn : j = n := by have := S.jn; omega
          rw [if_neg j0]
          have ge : (uO n off sg (n - 1) : Rat) ≤ plS n off sg out j := Rat.intCast_le_intCast.mpr (jn ▸ S.pl_ge (by omega))
          rw [Lo_last S.ok S.hs (by omega) (Rat.le_trans ge r.1), jn]
    rw [lev0] at l
    have l1 := l.1
    unfold dS aS
    rw [if_neg c, if_neg c]
    generalize (if n = 0 then 0 else vO n lev sg (if j = 0 then 0 else j - 1) : Int) = y at *
    generalize enS n off lev sg out high way up ov j = z at *
    have hu' := S.hu
    rcases S.hw with ⟨rfl, w⟩ | ⟨rfl, w⟩ | ⟨rfl, w⟩
    · refine ⟨by omega, ?_⟩
      clear r l w lev0
      grind
    · refine ⟨by omega, ?_⟩
      clear r l w lev0
      grind
    · exact absurd rfl w0
end SLP2
