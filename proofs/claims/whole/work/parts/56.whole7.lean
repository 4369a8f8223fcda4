/-! WHOLE NUMBERS OF THE CLASS: unscale, beginDigits, setDigit; commonOf -/
/-- the number that limbs i .. n - 1 make -/
def nh (g : Nat → Int) (n i : Nat) : Int := nv (fun j => g (i + j)) (n - i)
theorem nh_n (g : Nat → Int) (n : Nat) : nh g n n = 0 := by
  unfold nh
  rw [Nat.sub_self]
  rfl
theorem nh_step {g : Nat → Int} {n i : Nat} (h : i < n) : nh g n i = g i + 1000000000 * nh g n (i + 1) := by
  unfold nh
  rw [show n - i = 1 + (n - (i + 1)) by omega, nv_shift]
  show 0 + g (i + 0) * 1 + 1000000000 * nv (fun j => g (i + (1 + j))) _ = _
  rw [Nat.add_zero, show (fun j => g (i + (1 + j))) = (fun j => g (i + 1 + j)) from funext (fun j => by rw [show i + (1 + j) = i + 1 + j by omega])]
  omega
theorem nh_0 (g : Nat → Int) (n : Nat) : nh g n 0 = nv g n := by
  unfold nh
  rw [show (fun j => g (0 + j)) = g from funext (fun j => by rw [Nat.zero_add])]
  rfl
theorem nh_congr {g g' : Nat → Int} {n i : Nat} (h : ∀ j, i ≤ j → j < n → g' j = g j) : nh g' n i = nh g n i := nv_congr (fun j hj => h (i + j) (by omega) (by omega))
section WHV
variable {X : Nat × (Nat → Int32)}
theorem wp_unscale_loop {d t l cap n : Nat} {h0 : am_H} {f : Int} {g0 : Nat → Int} {Q : Option Value → am_H → Prop} (ht : h0[t]? = some (.inr (cWh, [.ref l, .int (iI n)]))) (hl : h0[l]? = some (am_la cap g0)) (hcap : cap ≤ 1000000) (hn : n ≤ cap) (hg0 : ∀ j, j < n → 0 ≤ g0 j ∧ g0 j < 1000000000) (hf : 1 ≤ f ∧ f ≤ 1000000000)
    (K : ∀ (g : Nat → Int) (u : Nat) (r : Int), u ≤ n → nv g n * f + r = nv g0 n → 0 ≤ r → r < f → (∀ j, j < n → 0 ≤ g j ∧ g j < 1000000000) → top g u n → Q none ((h0.set l (am_la cap g)).set t (.inr (cWh, [.ref l, .int (iI u)])))) :
    ∀ (i : Nat) (g : Nat → Int) (u : Nat) (r : Int), i ≤ n → (∀ j, j < i → g j = g0 j) → (∀ j, j < n → 0 ≤ g j ∧ g j < 1000000000) → 0 ≤ r → r < f → nh g n i * f + r = nh g0 n i → ((u = 0 ∧ ∀ j, i ≤ j → j < n → g j = 0) ∨ (i < u ∧ u ≤ n ∧ g (u - 1) ≠ 0 ∧ ∀ j, u ≤ j → j < n → g j = 0)) → am_w X d 96 (13, [.ref t, .long (lI f), am_U, .long (lI r), am_U, .int (iI u), .int (iI ((i : Int) - 1)), am_U, am_U], [], h0.set l (am_la cap g)) Q := by
  have hne : l ≠ t := fun e => am_oa ht hl e.symm
  intro i
  induction i with
  | zero =>
    intro g u r hi hk hg hr0 hr1 he hu
    have c_t : (h0.set l (am_la cap g))[t]? = some (.inr (cWh, [.ref l, .int (iI n)])) := by rw [am_set_n hne]; exact ht
    rw [nh_0, nh_0] at he
    refine wr_iload rfl rfl rfl ?_
    refine wr_if_lt rfl rfl rfl (by omega) (fun c15 => ?_) (fun c15 => ?_)
    ·
      refine wr_aload_n rfl rfl rfl ?_
      refine wr_iload rfl rfl rfl ?_
      refine wr_putI (ci := 5) (f := 1) (fs' := [_, _]) rfl rfl rfl (by assumption) rfl rfl rfl (fun h1 e1 => ?_)
      refine wr_vret rfl rfl ?_
      rw [e1]
      refine K g u r (by omega) he hr0 hr1 hg ?_
      rcases hu with ⟨rfl, q⟩ | ⟨q1, q2, q3, q4⟩
      · exact ⟨by omega, fun j a b => q j (by omega) b, fun z => by omega⟩
      · exact ⟨q2, q4, fun _ => q3⟩
    · exfalso; omega
  | succ i ih =>
    intro g u r hi hk hg hr0 hr1 he hu
    have c_t : (h0.set l (am_la cap g))[t]? = some (.inr (cWh, [.ref l, .int (iI n)])) := by rw [am_set_n hne]; exact ht
    have c_l : (h0.set l (am_la cap g))[l]? = some (am_la cap g) := am_set_s hl
    have x0 := hg0 i (by omega)
    have ek := hk i (by omega)
    have hu1 : 0 ≤ (u : Int) ∧ (u : Int) ≤ 1000000 := by omega
    rw [show ((i + 1 : Nat) : Int) - 1 = i by omega]
    have xr : 0 ≤ r * 1000000000 ∧ r * 1000000000 ≤ (f - 1) * 1000000000 := by omega
    obtain ⟨s, hs⟩ : ∃ s, s = r * 1000000000 + g0 i := ⟨_, rfl⟩
    obtain ⟨x, hx⟩ : ∃ x, x = s / f := ⟨_, rfl⟩
    obtain ⟨r', hr'⟩ : ∃ r', r' = s - x * f := ⟨_, rfl⟩
    have hr2 : 0 ≤ r' ∧ r' < f := by
      have y1 : x * f ≤ s := by rw [hx]; exact Int.ediv_mul_le s (by omega)
      have y2 : s < (x + 1) * f := by rw [hx]; exact Int.lt_ediv_add_one_mul_self s (by omega)
      rw [Int.add_mul] at y2
      omega
    have hx2 : 0 ≤ x ∧ x < 1000000000 := by
      refine ⟨by rw [hx]; exact Int.ediv_nonneg (by omega) (by omega), ?_⟩
      rw [hx]
      apply Int.ediv_lt_of_lt_mul (by omega)
      omega
    have xf : 0 ≤ x * f ∧ x * f ≤ s := by
      refine ⟨Int.mul_nonneg (by omega) (by omega), ?_⟩
      rw [hx]; exact Int.ediv_mul_le s (by omega)
    have J4 : ∀ u' : Nat, ((u' = 0 ∧ ∀ j, i ≤ j → j < n → updI g i x j = 0) ∨ (i < u' ∧ u' ≤ n ∧ updI g i x (u' - 1) ≠ 0 ∧ ∀ j, u' ≤ j → j < n → updI g i x j = 0)) → am_w X d 96 (89, [.ref t, .long (lI f), am_U, .long (lI r'), am_U, .int (iI u), .int (iI i), am_U, am_U], [.int (iI u')], h0.set l (am_la cap (updI g i x))) Q := by
      intro u' hu'
      refine wr_istore (ls' := [_, _, _, _, _, _, _, _, _]) rfl rfl (Nat.le_of_ble_eq_true rfl) rfl ?_
      refine wr_iinc (ls' := [_, _, _, _, _, _, _, _, _]) rfl rfl rfl rfl ?_
      refine wr_goto rfl rfl ?_
      refine ih (updI g i x) u' r' (by omega) (fun j hj => by rw [updI_n (by omega)]; exact hk j (by omega)) (dig_at hg hx2) (by omega) (by omega) ?_ hu'
      rw [nh_step (g := updI g i x) (by omega), nh_step (g := g0) (by omega), updI_s, nh_congr (g := g) (g' := updI g i x) (fun j a b => updI_n (by omega))]
      generalize nh g n (i + 1) = A at he ⊢
      generalize nh g0 n (i + 1) = B at he ⊢
      clear hx xf hx2 hr2
      subst hr' hs
      grind
    refine wr_iload rfl rfl rfl ?_
    refine wr_if_lt rfl rfl rfl (by omega) (fun c15 => ?_) (fun c15 => ?_)
    · exfalso; omega
    ·
      refine wr_lload_n rfl rfl rfl ?_
      refine wr_lconst (z := 0) rfl rfl rfl ?_
      refine wr_l_le rfl rfl rfl rfl rfl (by omega) (by omega) (fun c20 => ?_) (fun c20 => ?_)
      · exfalso; omega
      ·
        refine wr_lload_n rfl rfl rfl ?_
        refine wr_ldc2 (z := 1000000000) rfl rfl rfl (by decide) ?_
        refine wr_lmul rfl rfl ?_
        refine wr_aload_n rfl rfl rfl ?_
        refine wr_get (ci := 5) (f := 0) rfl rfl rfl (by assumption) rfl ?_
        refine wr_iload rfl rfl rfl ?_
        refine wr_lald rfl rfl (by assumption) (by omega) (by omega) ?_
        rw [Int.toNat_natCast, ek]
        refine wr_ladd rfl rfl ?_
        refine wr_lstore (ls' := [_, _, _, _, _, _, _, _, _]) rfl rfl (Nat.le_of_ble_eq_true rfl) rfl ?_
        rw [← hs]
        refine wr_aload_n rfl rfl rfl ?_
        refine wr_get (ci := 5) (f := 0) rfl rfl rfl (by assumption) rfl ?_
        refine wr_iload rfl rfl rfl ?_
        refine wr_lload rfl rfl rfl ?_
        refine wr_lload_n rfl rfl rfl ?_
        refine wr_ldivN rfl rfl (by omega) (by omega) (by omega) (by omega) ?_
        rw [← hx]
        refine wr_last rfl rfl (by assumption) (by omega) (by omega) (fun h1 e1 => ?_)
        rw [List.set_set, Int.toNat_natCast] at e1
        have d_t : h1[t]? = some (.inr (cWh, [.ref l, .int (iI n)])) := by rw [e1, am_set_n hne]; exact ht
        have d_l : h1[l]? = some (am_la cap (updI g i x)) := by rw [e1]; exact am_set_s hl
        refine wr_lload rfl rfl rfl ?_
        refine wr_aload_n rfl rfl rfl ?_
        refine wr_get (ci := 5) (f := 0) rfl rfl rfl (by assumption) rfl ?_
        refine wr_iload rfl rfl rfl ?_
        refine wr_lald rfl rfl (by assumption) (by omega) (by omega) ?_
        rw [Int.toNat_natCast, updI_s]
        refine wr_lload_n rfl rfl rfl ?_
        refine wr_lmul rfl rfl ?_
        refine wr_lsub rfl rfl ?_
        rw [← hr']
        refine wr_lstore_n (ls' := [_, _, _, _, _, _, _, _, _]) rfl rfl (Nat.le_of_ble_eq_true rfl) rfl ?_
        refine wr_iload rfl rfl rfl ?_
        refine wr_if_ne rfl rfl rfl (by omega) (fun c65 => ?_) (fun c65 => ?_)
        ·
          refine wr_iload rfl rfl rfl ?_
          refine am_w.wk (ls' := [_, _, _, _, _, _, _, am_U, _]) ⟨Or.inr rfl, Or.inr rfl, Or.inr rfl, Or.inr rfl, Or.inr rfl, Or.inr rfl, Or.inr rfl, Or.inl rfl, Or.inr rfl, trivial⟩ ?_
          rw [e1]
          refine J4 u (Or.inr ?_)
          rcases hu with ⟨rfl, q⟩ | ⟨q1, q2, q3, q4⟩
          · exfalso; omega
          · exact ⟨by omega, q2, by rw [updI_n (by omega)]; exact q3, fun j a b => by rw [updI_n (by omega)]; exact q4 j a b⟩
        ·
          have hu0 : u = 0 := by omega
          have hz : ∀ j, i + 1 ≤ j → j < n → g j = 0 := by
            rcases hu with ⟨-, q⟩ | ⟨q1, -⟩
            · exact q
            · exfalso; omega
          refine wr_aload_n rfl rfl rfl ?_
          refine wr_get (ci := 5) (f := 0) rfl rfl rfl (by assumption) rfl ?_
          refine wr_iload rfl rfl rfl ?_
          refine wr_lald rfl rfl (by assumption) (by omega) (by omega) ?_
          refine wr_lconst (z := 0) rfl rfl rfl ?_
          rw [Int.toNat_natCast, updI_s]
          refine wr_l_eq rfl rfl rfl rfl rfl (by omega) (by omega) (fun c76 => ?_) (fun c76 => ?_)
          ·
            refine wr_iload rfl rfl rfl ?_
            refine am_w.wk (ls' := [_, _, _, _, _, _, _, am_U, _]) ⟨Or.inr rfl, Or.inr rfl, Or.inr rfl, Or.inr rfl, Or.inr rfl, Or.inr rfl, Or.inr rfl, Or.inl rfl, Or.inr rfl, trivial⟩ ?_
            rw [e1]
            refine J4 u (Or.inl ⟨hu0, fun j a b => ?_⟩)
            by_cases e : j = i
            · subst e; rw [updI_s]; exact c76
            · rw [updI_n e]; exact hz j (by omega) b
          ·
            refine wr_iload rfl rfl rfl ?_
            refine wr_iconst rfl rfl ?_
            refine wr_iadd rfl rfl ?_
            refine wr_goto rfl rfl ?_
            refine am_w.wk (ls' := [_, _, _, _, _, _, _, am_U, _]) ⟨Or.inr rfl, Or.inr rfl, Or.inr rfl, Or.inr rfl, Or.inr rfl, Or.inr rfl, Or.inr rfl, Or.inl rfl, Or.inr rfl, trivial⟩ ?_
            rw [e1, show (i : Int) + 1 = ((i + 1 : Nat) : Int) by omega]
            refine J4 (i + 1) (Or.inr ⟨by omega, by omega, by rw [show i + 1 - 1 = i by omega, updI_s]; exact c76, fun j a b => ?_⟩)
            rw [updI_n (by omega)]
            exact hz j a b
theorem wp_unscale {d t l cap : Nat} {h : am_H} {v f : Int} (ht : isW h t l cap v) (hcap : cap ≤ 1000000) (hf : 1 ≤ f ∧ f ≤ 1000000000) :
    am_c X (d + 1) 96 [.ref t, .long (lI f)] h (fun r h' => r = none ∧ isW h' t l cap (v / f) ∧ fr [t, l] h h') := by
  obtain ⟨g0, n, c_t, c_l, q1, q2, q3⟩ := ht
  have hne : l ≠ t := fun e => am_oa c_t c_l e.symm
  refine am_c.of (Nat.le_of_ble_eq_true rfl) ?_
  show am_w _ _ _ (_, [_, _, _, _, _, _, _, _, _], _, _) _
  refine wr_lconst (z := 0) rfl rfl rfl ?_
  refine wr_lstore_n (ls' := [_, _, _, _, _, _, _, _, _]) rfl rfl (Nat.le_of_ble_eq_true rfl) rfl ?_
  refine wr_iconst rfl rfl ?_
  refine wr_istore (ls' := [_, _, _, _, _, _, _, _, _]) rfl rfl (Nat.le_of_ble_eq_true rfl) rfl ?_
  refine wr_aload_n rfl rfl rfl ?_
  refine wr_get (ci := 5) (f := 1) rfl rfl rfl (by assumption) rfl ?_
  refine wr_iconst rfl rfl ?_
  refine wr_isub rfl rfl ?_
  refine wr_istore (ls' := [_, _, _, _, _, _, _, _, _]) rfl rfl (Nat.le_of_ble_eq_true rfl) rfl ?_
  have hw := wp_unscale_loop (X := X) (d := d) (f := f) (Q := fun r h' => r = none ∧ isW h' t l cap (v / f) ∧ fr [t, l] h h') c_t c_l hcap q1 q2.1 hf ?_ n g0 0 0 (Nat.le_refl _) (fun j hj => rfl) q2.1 (by omega) (by omega) (by rw [nh_n]; omega) (Or.inl ⟨rfl, fun j a b => by omega⟩)
  · rw [am_set_id c_l] at hw
    exact hw
  · intro g u r hu he hr0 hr1 hg htop
    refine ⟨rfl, ?_, fr_set2⟩
    have e1 : v / f = nv g u := by
      rw [← top_nv htop, ← q3, ← he, Int.add_comm, Int.add_mul_ediv_right _ _ (by omega), Int.ediv_eq_zero_of_lt hr0 hr1]
      omega
    rw [e1]
    exact isW.mk2 c_t c_l hne (by omega) ⟨fun j hj => hg j (by omega), htop.2.2⟩
theorem wp_beginDigits {d t l cap : Nat} {h : am_H} {n0 k : Int} {g : Nat → Int} (c_t : h[t]? = some (.inr (cWh, [.ref l, .int (iI n0)]))) (c_l : h[l]? = some (am_la cap g)) (hcap : cap ≤ 1000000) (hk : -1000000 ≤ k ∧ k ≤ cap) :
    am_c X (d + 1) 92 [.ref t, .int (iI k)] h (fun r h' => r = none ∧ h' = h.set t (.inr (cWh, [.ref l, .int (iI (max 0 k))]))) := by
  have J : am_w X d 92 (27, [.ref t, .int (iI k)], [.int (iI (max 0 k)), .ref t], h) (fun r h' => r = none ∧ h' = h.set t (.inr (cWh, [.ref l, .int (iI (max 0 k))]))) := by
    refine wr_putI (ci := 5) (f := 1) (fs' := [_, _]) rfl rfl rfl (by assumption) rfl rfl rfl (fun h1 e1 => ?_)
    refine wr_vret rfl rfl ?_
    exact ⟨rfl, e1⟩
  refine am_c.of (Nat.le_of_ble_eq_true rfl) ?_
  show am_w _ _ _ (_, [_, _], _, _) _
  refine wr_aload_n rfl rfl rfl ?_
  refine wr_iload_n rfl rfl rfl ?_
  refine wr_if_ge rfl rfl rfl (by omega) (fun c2 => ?_) (fun c2 => ?_)
  ·
    refine wr_iload_n rfl rfl rfl ?_
    refine wr_aload_n rfl rfl rfl ?_
    refine wr_get (ci := 5) (f := 0) rfl rfl rfl (by assumption) rfl ?_
    refine wr_alen rfl rfl (by assumption) (by decide) ?_
    refine wr_icmp_ge rfl rfl rfl (by omega) (by omega) (fun c15 => ?_) (fun c15 => ?_)
    ·
      refine wr_aload_n rfl rfl rfl ?_
      refine wr_get (ci := 5) (f := 0) rfl rfl rfl (by assumption) rfl ?_
      refine wr_alen rfl rfl (by assumption) (by decide) ?_
      rw [show (cap : Int) = max 0 k by omega]
      exact J
    ·
      refine wr_iload_n rfl rfl rfl ?_
      refine wr_goto rfl rfl ?_
      have e : max 0 k = k := by omega
      rw [e] at J
      rw [e]
      exact J
  ·
    refine wr_iconst rfl rfl ?_
    refine wr_goto rfl rfl ?_
    have e : max 0 k = 0 := by omega
    rw [e] at J
    rw [e]
    exact J
theorem wp_setDigit {d t l cap s i : Nat} {h : am_H} {x : Int} {g : Nat → Int} (c_t : h[t]? = some (.inr (cWh, [.ref l, .int (iI s)]))) (c_l : h[l]? = some (am_la cap g)) (hcap : cap ≤ 1000000) (hs : s ≤ cap) (hi : i < cap) (hx : 0 ≤ x ∧ x < 1000000000) :
    am_c X (d + 1) 95 [.ref t, .int (iI i), .long (lI x)] h (fun r h' => r = none ∧ h' = (h.set l (am_la cap (updI g i x))).set t (.inr (cWh, [.ref l, .int (iI (if x = 0 ∧ s = i + 1 then (i : Int) else s))]))) := by
  have hne : l ≠ t := fun e => am_oa c_t c_l e.symm
  refine am_c.of (Nat.le_of_ble_eq_true rfl) ?_
  show am_w _ _ _ (_, [_, _, _, _], _, _) _
  refine wr_iload_n rfl rfl rfl ?_
  refine wr_if_lt rfl rfl rfl (by omega) (fun c1 => ?_) (fun c1 => ?_)
  · exfalso; omega
  ·
    refine wr_iload_n rfl rfl rfl ?_
    refine wr_aload_n rfl rfl rfl ?_
    refine wr_get (ci := 5) (f := 0) rfl rfl rfl (by assumption) rfl ?_
    refine wr_alen rfl rfl (by assumption) (by decide) ?_
    refine wr_icmp_lt rfl rfl rfl (by omega) (by omega) (fun c10 => ?_) (fun c10 => ?_)
    ·
      refine wr_aload_n rfl rfl rfl ?_
      refine wr_get (ci := 5) (f := 0) rfl rfl rfl (by assumption) rfl ?_
      refine wr_iload_n rfl rfl rfl ?_
      refine wr_lload_n rfl rfl rfl ?_
      refine wr_last rfl rfl (by assumption) (by omega) (by omega) (fun h1 e1 => ?_)
      rw [Int.toNat_natCast] at e1
      have d_t : h1[t]? = some (.inr (cWh, [.ref l, .int (iI s)])) := by rw [e1, am_set_n hne]; exact c_t
      refine wr_lload_n rfl rfl rfl ?_
      refine wr_lconst (z := 0) rfl rfl rfl ?_
      refine wr_l_ne rfl rfl rfl rfl rfl (by omega) (by omega) (fun c23 => ?_) (fun c23 => ?_)
      ·
        refine wr_vret rfl rfl ?_
        rw [if_neg (fun q => c23 q.1), ← e1, am_set_id d_t]
        exact ⟨rfl, rfl⟩
      ·
        refine wr_aload_n rfl rfl rfl ?_
        refine wr_get (ci := 5) (f := 1) rfl rfl rfl (by assumption) rfl ?_
        refine wr_iload_n rfl rfl rfl ?_
        refine wr_iconst rfl rfl ?_
        refine wr_iadd rfl rfl ?_
        refine wr_icmp_ne rfl rfl rfl (by omega) (by omega) (fun c34 => ?_) (fun c34 => ?_)
        ·
          refine wr_vret rfl rfl ?_
          rw [if_neg (fun q => c34 (by omega)), ← e1, am_set_id d_t]
          exact ⟨rfl, rfl⟩
        ·
          refine wr_aload_n rfl rfl rfl ?_
          refine wr_iload_n rfl rfl rfl ?_
          refine wr_putI (ci := 5) (f := 1) (fs' := [_, _]) rfl rfl rfl (by assumption) rfl rfl rfl (fun h2 e2 => ?_)
          refine wr_vret rfl rfl ?_
          rw [if_pos ⟨by omega, by omega⟩, ← e1]
          exact ⟨rfl, e2⟩
    · exfalso; omega
end WHV
