/-! WHOLE NUMBERS OF THE CLASS: limbs of nine digits, the lowest first (from wip/whole/50.whole.tmpl by tools/walk.py) -/
def nv (g : Nat → Int) : Nat → Int
  | 0 => 0
  | n + 1 => nv g n + g n * 1000000000 ^ n
theorem nv_congr {g g' : Nat → Int} : ∀ {n : Nat}, (∀ i, i < n → g' i = g i) → nv g' n = nv g n
  | 0, _ => rfl
  | n + 1, h => by
    show nv g' n + g' n * _ = nv g n + g n * _
    rw [nv_congr (n := n) (fun i hi => h i (by omega)), h n (by omega)]
theorem nv_upd (g : Nat → Int) (n : Nat) (x : Int) : nv (updI g n x) (n + 1) = nv g n + x * 1000000000 ^ n := by
  show nv (updI g n x) n + updI g n x n * _ = _
  rw [updI_s, nv_congr (fun i hi => updI_n (by omega))]
theorem bp_pos (n : Nat) : (0 : Int) < 1000000000 ^ n := Int.pow_pos (by decide)
theorem nv_nonneg {g : Nat → Int} : ∀ {n : Nat}, (∀ i, i < n → 0 ≤ g i ∧ g i < 1000000000) → 0 ≤ nv g n ∧ nv g n < 1000000000 ^ n
  | 0, _ => ⟨Int.le_refl _, by show (0 : Int) < 1; decide⟩
  | n + 1, h => by
    obtain ⟨h1, h2⟩ := nv_nonneg (n := n) (fun i hi => h i (by omega))
    obtain ⟨h3, h4⟩ := h n (by omega)
    have hp := bp_pos n
    show 0 ≤ nv g n + g n * _ ∧ nv g n + g n * _ < _
    rw [Int.pow_succ]
    have h5 : 0 ≤ g n * 1000000000 ^ n := Int.mul_nonneg h3 (by omega)
    have h6 : g n * 1000000000 ^ n ≤ 999999999 * 1000000000 ^ n := Int.mul_le_mul_of_nonneg_right (by omega) (by omega)
    omega
/-- n limbs below the base, the highest not 0 -/
def nok (g : Nat → Int) (n : Nat) : Prop := (∀ i, i < n → 0 ≤ g i ∧ g i < 1000000000) ∧ (0 < n → g (n - 1) ≠ 0)
abbrev cWh : Nat := 5
theorem am_set_s {h : am_H} {a : Nat} {c c' : va_E} (hc : h[a]? = some c') : (h.set a c)[a]? = some c := by
  have hl := (List.getElem?_eq_some_iff.mp hc).1
  simp [hl]
theorem am_set_n {h : am_H} {a b : Nat} {c : va_E} (hne : a ≠ b) : (h.set a c)[b]? = h[b]? := List.getElem?_set_ne hne
theorem am_set_id {h : am_H} {a : Nat} {c : va_E} (hc : h[a]? = some c) : h.set a c = h := by
  apply List.ext_getElem?
  intro i
  by_cases e : a = i
  · subst e
    rw [am_set_s hc, hc]
  · rw [am_set_n e]
theorem am_oa {h : am_H} {a b ci : Nat} {fs : List Value} {y : ClassId × vp_A} (ha : h[a]? = some (.inr (ci, fs))) (hb : h[b]? = some (.inl y)) : a ≠ b := by
  intro e
  subst e
  rw [ha] at hb
  cases hb
/-- nothing but the cells S has changed, none was made -/
def fr (S : List Nat) (h h' : am_H) : Prop := h'.length = h.length ∧ ∀ i, i ∉ S → h'[i]? = h[i]?
theorem fr_rf (S : List Nat) (h : am_H) : fr S h h := ⟨rfl, fun _ _ => rfl⟩
theorem fr_tr {S T U : List Nat} {h h1 h2 : am_H} (a : fr S h h1) (b : fr T h1 h2) (hS : ∀ i ∈ S, i ∈ U) (hT : ∀ i ∈ T, i ∈ U) : fr U h h2 :=
  ⟨b.1.trans a.1, fun i hi => (b.2 i (fun q => hi (hT i q))).trans (a.2 i (fun q => hi (hS i q)))⟩
theorem fr_wk {S U : List Nat} {h h1 : am_H} (a : fr S h h1) (hS : ∀ i ∈ S, i ∈ U) : fr U h h1 := ⟨a.1, fun i hi => a.2 i (fun q => hi (hS i q))⟩
theorem fr_set2 {h : am_H} {a b : Nat} {c e : va_E} : fr [b, a] h ((h.set a c).set b e) := by
  refine ⟨by simp, fun i hi => ?_⟩
  simp only [List.mem_cons, List.not_mem_nil, or_false, not_or] at hi
  rw [am_set_n (fun q => hi.1 q.symm), am_set_n (fun q => hi.2 q.symm)]
/-- the cells t (an object) and l (its limbs, cap of them) hold the number v -/
def isW (h : am_H) (t l cap : Nat) (v : Int) : Prop := ∃ (g : Nat → Int) (n : Nat), h[t]? = some (.inr (cWh, [.ref l, .int (iI n)])) ∧ h[l]? = some (am_la cap g) ∧ n ≤ cap ∧ nok g n ∧ nv g n = v
theorem isW.kept {h h' : am_H} {t l cap : Nat} {v : Int} {S : List Nat} (w : isW h t l cap v) (f : fr S h h') (h1 : t ∉ S) (h2 : l ∉ S) : isW h' t l cap v := by
  obtain ⟨g, n, a, b, c⟩ := w
  exact ⟨g, n, by rw [f.2 t h1]; exact a, by rw [f.2 l h2]; exact b, c⟩
theorem isW.mk2 {h : am_H} {t l cap n : Nat} {c0 c1 : va_E} {g : Nat → Int} (ht : h[t]? = some c0) (hl : h[l]? = some c1) (hne : l ≠ t) (hn : n ≤ cap) (hk : nok g n) : isW ((h.set l (am_la cap g)).set t (.inr (cWh, [.ref l, .int (iI n)]))) t l cap (nv g n) :=
  ⟨g, n, am_set_s (c' := c0) (by rw [am_set_n hne]; exact ht), by rw [am_set_n (Ne.symm hne)]; exact am_set_s hl, hn, hk, rfl⟩
section WHP
variable {X : Nat × (Nat → Int32)}
theorem wp_put_loop {d t l cap : Nat} {h0 : am_H} {n0 v : Int} {g0 : Nat → Int} {Q : Option Value → am_H → Prop} (ht : h0[t]? = some (.inr (cWh, [.ref l, .int (iI n0)]))) (hl : h0[l]? = some (am_la cap g0)) (hcap : cap ≤ 1000000)
    (K : ∀ (g : Nat → Int) (n : Nat) (r : Int), n ≤ cap → 0 ≤ r → (r = 0 ∨ n = cap) → nv g n + r * 1000000000 ^ n = v → (∀ j, j < n → 0 ≤ g j ∧ g j < 1000000000) → (r = 0 → nok g n) → Q none ((h0.set l (am_la cap g)).set t (.inr (cWh, [.ref l, .int (iI n)])))) :
    ∀ (m i : Nat) (g : Nat → Int) (r : Int), i + m = cap → 0 ≤ r → r ≤ 9223372036854775807 → nv g i + r * 1000000000 ^ i = v → (∀ j, j < i → 0 ≤ g j ∧ g j < 1000000000) → (0 < i → g (i - 1) = 0 → 0 < r) → am_w X d 10 (8, [.ref t, .long (lI v), am_U, .long (lI r), am_U, .int (iI i), .int (iI i)], [], h0.set l (am_la cap g)) Q := by
  have hne : l ≠ t := fun e => am_oa ht hl e.symm
  intro m
  induction m with
  | zero =>
    intro i g r hm hr hr2 hv hg hz
    have c_t : (h0.set l (am_la cap g))[t]? = some (.inr (cWh, [.ref l, .int (iI n0)])) := by rw [am_set_n hne]; exact ht
    have c_l : (h0.set l (am_la cap g))[l]? = some (am_la cap g) := am_set_s hl
    refine wr_iload rfl rfl rfl ?_
    refine wr_aload_n rfl rfl rfl ?_
    refine wr_get (ci := 5) (f := 0) rfl rfl rfl (by assumption) rfl ?_
    refine wr_alen rfl rfl (by assumption) (by decide) ?_
    refine wr_icmp_ge rfl rfl rfl (by omega) (by omega) (fun c15 => ?_) (fun c15 => ?_)
    ·
      refine wr_aload_n rfl rfl rfl ?_
      refine wr_iload rfl rfl rfl ?_
      refine wr_putI (ci := 5) (f := 1) (fs' := [_, _]) rfl rfl rfl (by assumption) rfl rfl rfl (fun h1 e1 => ?_)
      refine wr_vret rfl rfl ?_
      rw [e1]
      exact K g i r (by omega) hr (Or.inr (by omega)) hv hg (fun e0 => ⟨hg, fun q1 q2 => by have := hz q1 q2; omega⟩)
    · exfalso; omega
  | succ m ih =>
    intro i g r hm hr hr2 hv hg hz
    have c_t : (h0.set l (am_la cap g))[t]? = some (.inr (cWh, [.ref l, .int (iI n0)])) := by rw [am_set_n hne]; exact ht
    have c_l : (h0.set l (am_la cap g))[l]? = some (am_la cap g) := am_set_s hl
    refine wr_iload rfl rfl rfl ?_
    refine wr_aload_n rfl rfl rfl ?_
    refine wr_get (ci := 5) (f := 0) rfl rfl rfl (by assumption) rfl ?_
    refine wr_alen rfl rfl (by assumption) (by decide) ?_
    refine wr_icmp_ge rfl rfl rfl (by omega) (by omega) (fun c15 => ?_) (fun c15 => ?_)
    · exfalso; omega
    ·
      refine wr_lload_n rfl rfl rfl ?_
      refine wr_lconst (z := 0) rfl rfl rfl ?_
      refine wr_l_le rfl rfl rfl rfl rfl (by omega) (by omega) (fun c20 => ?_) (fun c20 => ?_)
      ·
        refine wr_aload_n rfl rfl rfl ?_
        refine wr_iload rfl rfl rfl ?_
        refine wr_putI (ci := 5) (f := 1) (fs' := [_, _]) rfl rfl rfl (by assumption) rfl rfl rfl (fun h1 e1 => ?_)
        refine wr_vret rfl rfl ?_
        rw [e1]
        exact K g i r (by omega) hr (Or.inl (by omega)) hv hg (fun e0 => ⟨hg, fun q1 q2 => by have := hz q1 q2; omega⟩)
      ·
        refine wr_aload_n rfl rfl rfl ?_
        refine wr_get (ci := 5) (f := 0) rfl rfl rfl (by assumption) rfl ?_
        refine wr_iload rfl rfl rfl ?_
        refine wr_lload_n rfl rfl rfl ?_
        refine wr_ldc2 (z := 1000000000) rfl rfl rfl (by decide) ?_
        refine wr_lremN rfl rfl (by omega) (by omega) (by omega) (by omega) ?_
        refine wr_last rfl rfl (by assumption) (by omega) (by omega) (fun h1 e1 => ?_)
        rw [List.set_set, Int.toNat_natCast] at e1
        subst e1
        refine wr_lload_n rfl rfl rfl ?_
        refine wr_ldc2 (z := 1000000000) rfl rfl rfl (by decide) ?_
        refine wr_ldivN rfl rfl (by omega) (by omega) (by omega) (by omega) ?_
        refine wr_lstore_n (ls' := [_, _, _, _, _, _, _]) rfl rfl (Nat.le_of_ble_eq_true rfl) rfl ?_
        refine wr_iload rfl rfl rfl ?_
        refine wr_iconst rfl rfl ?_
        refine wr_iadd rfl rfl ?_
        refine wr_istore (ls' := [_, _, _, _, _, _, _]) rfl rfl (Nat.le_of_ble_eq_true rfl) rfl ?_
        refine wr_iinc (ls' := [_, _, _, _, _, _, _]) rfl rfl rfl rfl ?_
        refine wr_goto rfl rfl ?_
        have e2 : r = 1000000000 * (r / 1000000000) + r % 1000000000 := (Int.mul_ediv_add_emod r 1000000000).symm
        rw [show (i : Int) + 1 = ((i + 1 : Nat) : Int) by omega]
        refine ih (i + 1) (updI g i (r % 1000000000)) (r / 1000000000) (by omega) (by omega) (by omega) ?_ ?_ ?_
        · rw [nv_upd, ← hv, Int.pow_succ]
          generalize (1000000000 : Int) ^ i = p
          generalize r / 1000000000 = q at e2 ⊢
          generalize r % 1000000000 = s at e2 ⊢
          subst e2
          grind
        · intro j hj
          by_cases e : j = i
          · subst e
            rw [updI_s]
            omega
          · rw [updI_n e]
            exact hg j (by omega)
        · intro _ hq
          rw [show i + 1 - 1 = i by omega, updI_s] at hq
          omega
theorem wp_put {d t l cap : Nat} {h : am_H} {n0 v : Int} {g0 : Nat → Int} (ht : h[t]? = some (.inr (cWh, [.ref l, .int (iI n0)]))) (hl : h[l]? = some (am_la cap g0)) (hcap : cap ≤ 1000000) (hv : 0 ≤ v ∧ v ≤ 9223372036854775807) (hfit : v < 1000000000 ^ cap) :
    am_c X (d + 1) 10 [.ref t, .long (lI v)] h (fun r h' => r = none ∧ isW h' t l cap v ∧ fr [t, l] h h') := by
  have hne : l ≠ t := fun e => am_oa ht hl e.symm
  refine am_c.of (Nat.le_of_ble_eq_true rfl) ?_
  show am_w _ _ _ (_, [_, _, _, _, _, _, _], _, _) _
  refine wr_lload_n rfl rfl rfl ?_
  refine wr_lstore_n (ls' := [_, _, _, _, _, _, _]) rfl rfl (Nat.le_of_ble_eq_true rfl) rfl ?_
  refine wr_iconst rfl rfl ?_
  refine wr_istore (ls' := [_, _, _, _, _, _, _]) rfl rfl (Nat.le_of_ble_eq_true rfl) rfl ?_
  refine wr_iconst rfl rfl ?_
  refine wr_istore (ls' := [_, _, _, _, _, _, _]) rfl rfl (Nat.le_of_ble_eq_true rfl) rfl ?_
  have hw := wp_put_loop (X := X) (d := d) (v := v) (Q := fun r h' => r = none ∧ isW h' t l cap v ∧ fr [t, l] h h') ht hl hcap ?_ cap 0 g0 v (by omega) hv.1 hv.2 (by show 0 + v * 1 = v; omega) (fun j hj => by omega) (fun q => by omega)
  · rw [am_set_id hl] at hw
    exact hw
  · intro g n r hn hr hc he hg hk
    have h0 : r = 0 := by
      rcases hc with q | q
      · exact q
      · subst q
        rcases Int.lt_or_le 0 r with q | q
        · have h1 := (nv_nonneg hg).1
          have h2 : 1 * 1000000000 ^ n ≤ r * 1000000000 ^ n := Int.mul_le_mul_of_nonneg_right (by omega) (by have := bp_pos n; omega)
          omega
        · omega
    subst h0
    have e1 : nv g n = v := by omega
    refine ⟨rfl, ?_, fr_set2⟩
    rw [← e1]
    exact isW.mk2 ht hl hne hn (hk rfl)
end WHP
