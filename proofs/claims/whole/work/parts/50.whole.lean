/-! WHOLE NUMBERS OF THE CLASS: limbs of nine digits, the lowest first -/
def nv (g : Nat → Int) : Nat → Int
  | 0 => 0
  | n + 1 => nv g n + g n * 1000000000 ^ n
theorem nv_congr {g g' : Nat → Int} : ∀ {n : Nat}, (∀ i, i < n → g' i = g i) → nv g' n = nv g n
  | 0, _ => rfl
  | n + 1, h => by
    show nv g' n + g' n * _ = nv g n + g n * _
    rw [nv_congr (n := n) (fun i hi => h i (by omega)), h n (by omega)]
/-- n limbs below the base, the highest not 0 -/
def nok (g : Nat → Int) (n : Nat) : Prop := (∀ i, i < n → 0 ≤ g i ∧ g i < 1000000000) ∧ (0 < n → g (n - 1) ≠ 0)
abbrev cWh : Nat := 5
theorem am_set_s {h : am_H} {a : Nat} {c c' : va_E} (hc : h[a]? = some c') : (h.set a c)[a]? = some c := by
  have hl := (List.getElem?_eq_some_iff.mp hc).1
  simp [hl]
theorem am_set_n {h : am_H} {a b : Nat} {c : va_E} (hne : a ≠ b) : (h.set a c)[b]? = h[b]? := List.getElem?_set_ne hne
theorem am_oa {h : am_H} {a b ci : Nat} {fs : List Value} {y : ClassId × vp_A} (ha : h[a]? = some (.inr (ci, fs))) (hb : h[b]? = some (.inl y)) : a ≠ b := by
  intro e
  subst e
  rw [ha] at hb
  cases hb
section WHP
variable {X : Nat × (Nat → Int32)}
theorem wp_put_loop {d t l cap : Nat} {h0 : am_H} {n0 v : Int} {g0 : Nat → Int} {Q : Option Value → am_H → Prop} (ht : h0[t]? = some (.inr (cWh, [.ref l, .int (iI n0)]))) (hl : h0[l]? = some (am_la cap g0)) (hcap : cap ≤ 1000000)
    (K : ∀ (g : Nat → Int) (n : Nat) (r : Int), n ≤ cap → 0 ≤ r → (r = 0 ∨ n = cap) → nv g n + r * 1000000000 ^ n = v → nok g n → Q none ((h0.set l (am_la cap g)).set t (.inr (cWh, [.ref l, .int (iI n)])))) :
    ∀ (m i : Nat) (g : Nat → Int) (r : Int), i + m = cap → 0 ≤ r → r ≤ 9223372036854775807 → nv g i + r * 1000000000 ^ i = v → (∀ j, j < i → 0 ≤ g j ∧ g j < 1000000000) → (0 < i → g (i - 1) = 0 → 0 < r) → am_w X d 10 (8, [.ref t, .long (lI v), am_U, .long (lI r), am_U, .int (iI i), .int (iI i)], [], h0.set l (am_la cap g)) Q := by
  have hne : l ≠ t := fun e => am_oa ht hl e.symm
  intro m
  induction m with
  | zero =>
    intro i g r hm hr hr2 hv hg hz
    have c_t : (h0.set l (am_la cap g))[t]? = some (.inr (cWh, [.ref l, .int (iI n0)])) := by rw [am_set_n hne]; exact ht
    have c_l : (h0.set l (am_la cap g))[l]? = some (am_la cap g) := am_set_s hl
    refine wr_iload rfl rfl rfl ?_
    refine wr_aload_n rfl rfl rfl ?_
    refine wr_get rfl rfl rfl (by assumption) rfl ?_
    refine wr_alen rfl rfl (by assumption) (by decide) ?_
    refine wr_icmp_ge rfl rfl rfl (by omega) (by omega) (fun c15 => ?_) (fun c15 => ?_)
    ·
      refine wr_aload_n rfl rfl rfl ?_
      refine wr_iload rfl rfl rfl ?_
      sorry
    · exfalso; omega
  | succ m ih =>
    intro i g r hm hr hr2 hv hg hz
    have c_t : (h0.set l (am_la cap g))[t]? = some (.inr (cWh, [.ref l, .int (iI n0)])) := by rw [am_set_n hne]; exact ht
    have c_l : (h0.set l (am_la cap g))[l]? = some (am_la cap g) := am_set_s hl
    refine wr_iload rfl rfl rfl ?_
    refine wr_aload_n rfl rfl rfl ?_
    refine wr_get rfl rfl rfl (by assumption) rfl ?_
    refine wr_alen rfl rfl (by assumption) (by decide) ?_
    refine wr_icmp_ge rfl rfl rfl (by omega) (by omega) (fun c15 => ?_) (fun c15 => ?_)
    · exfalso; omega
    ·
      refine wr_lload_n rfl rfl rfl ?_
      refine wr_lconst (z := 0) rfl rfl rfl ?_
      refine wr_l_le rfl rfl rfl rfl rfl (by omega) (by omega) (fun c20 => ?_) (fun c20 => ?_)
      · sorry
      ·
        refine wr_aload_n rfl rfl rfl ?_
        refine wr_get rfl rfl rfl (by assumption) rfl ?_
        refine wr_iload rfl rfl rfl ?_
        refine wr_lload_n rfl rfl rfl ?_
        refine wr_ldc2 (z := 1000000000) rfl rfl rfl (by decide) ?_
        refine wr_lrem rfl rfl (by omega) (by omega) (by omega) ?_
        refine wr_last rfl rfl (by assumption) (by omega) (by omega) (fun h1 e1 => ?_)
        sorry
end WHP
