/-! WHOLE NUMBERS OF THE CLASS: copy, eighteen, compare -/
theorem nv_low {g : Nat → Int} {n : Nat} (h : nok g n) (hn : 0 < n) : 1000000000 ^ (n - 1) ≤ nv g n := by
  obtain ⟨m, rfl⟩ : ∃ m, n = m + 1 := ⟨n - 1, by omega⟩
  have h1 := nv_nonneg (g := g) (n := m) (fun i hi => h.1 i (by omega))
  have h2 := h.2 hn
  have h3 := h.1 m (by omega)
  rw [show m + 1 - 1 = m by omega] at h2 ⊢
  show _ ≤ nv g m + g m * _
  have h4 : 1 * 1000000000 ^ m ≤ g m * 1000000000 ^ m := Int.mul_le_mul_of_nonneg_right (by omega) (by have := bp_pos m; omega)
  omega
theorem bp_mono {m n : Nat} (h : m ≤ n) : (1000000000 : Int) ^ m ≤ 1000000000 ^ n := by
  obtain ⟨k, rfl⟩ : ∃ k, n = m + k := ⟨n - m, by omega⟩
  rw [Int.pow_add]
  have h1 := bp_pos m
  have h2 := bp_pos k
  have h3 : 1000000000 ^ m * 1 ≤ (1000000000 : Int) ^ m * 1000000000 ^ k := Int.mul_le_mul_of_nonneg_left (by omega) (by omega)
  omega
/-- a number below the base's power has no more limbs -/
theorem nv_fit {g : Nat → Int} {n c : Nat} (h : nok g n) (hv : nv g n < 1000000000 ^ c) : n ≤ c := by
  rcases Nat.lt_or_ge c n with q | q
  · have h1 := nv_low h (by omega)
    have h2 := bp_mono (m := c) (n := n - 1) (by omega)
    omega
  · exact q
theorem nok_congr {g g' : Nat → Int} {n : Nat} (h : nok g n) (he : ∀ i, i < n → g' i = g i) : nok g' n :=
  ⟨fun i hi => by rw [he i hi]; exact h.1 i hi, fun hn => by rw [he (n - 1) (by omega)]; exact h.2 hn⟩
theorem nv_split {g g' : Nat → Int} {i : Nat} : ∀ {n : Nat}, i ≤ n → (∀ j, i ≤ j → j < n → g j = g' j) → nv g n - nv g i = nv g' n - nv g' i
  | 0, h, _ => by
    obtain rfl : i = 0 := by omega
    omega
  | n + 1, h, he => by
    by_cases e : i = n + 1
    · subst e; omega
    · have ih := nv_split (g := g) (g' := g') (i := i) (n := n) (by omega) (fun j h1 h2 => he j h1 (by omega))
      show nv g n + g n * _ - _ = nv g' n + g' n * _ - _
      rw [he n (by omega) (by omega)]
      omega
/-- two numbers, alike above limb i, and greater there -/
theorem nv_gt {g g' : Nat → Int} {n i : Nat} (h : nok g n) (h' : nok g' n) (hi : i < n) (he : ∀ j, i < j → j < n → g j = g' j) (hg : g' i < g i) : nv g' n < nv g n := by
  have h1 := nv_split (g := g) (g' := g') (i := i + 1) (n := n) (by omega) (fun j a b => he j (by omega) b)
  have h2 := nv_nonneg (g := g) (n := i) (fun j hj => h.1 j (by omega))
  have h3 := nv_nonneg (g := g') (n := i) (fun j hj => h'.1 j (by omega))
  have h4 : nv g (i + 1) = nv g i + g i * 1000000000 ^ i := rfl
  have h5 : nv g' (i + 1) = nv g' i + g' i * 1000000000 ^ i := rfl
  have h6 : (g' i + 1) * 1000000000 ^ i ≤ g i * 1000000000 ^ i := Int.mul_le_mul_of_nonneg_right (by omega) (by have := bp_pos i; omega)
  rw [Int.add_mul] at h6
  omega
/-- fewer limbs, a smaller number -/
theorem nv_short {g g' : Nat → Int} {n n' : Nat} (h : nok g n) (h' : nok g' n') (hn : n' < n) : nv g' n' < nv g n := by
  have h1 := nv_low h (by omega)
  have h2 := nv_nonneg (g := g') (n := n') h'.1
  have h3 := bp_mono (m := n') (n := n - 1) (by omega)
  omega
theorem nv_shift (g : Nat → Int) (i : Nat) : ∀ m : Nat, nv g (i + m) = nv g i + 1000000000 ^ i * nv (fun j => g (i + j)) m
  | 0 => by show nv g i = nv g i + _ * 0; omega
  | m + 1 => by
    show nv g (i + m) + g (i + m) * 1000000000 ^ (i + m) = nv g i + 1000000000 ^ i * (nv (fun j => g (i + j)) m + g (i + m) * 1000000000 ^ m)
    rw [nv_shift g i m, Int.pow_add]
    grind
theorem nv_div {g : Nat → Int} {n i : Nat} (h : ∀ j, j < n → 0 ≤ g j ∧ g j < 1000000000) (hi : i ≤ n) : nv g n / 1000000000 ^ i = nv (fun j => g (i + j)) (n - i) := by
  obtain ⟨m, rfl⟩ : ∃ m, n = i + m := ⟨n - i, by omega⟩
  have h1 := nv_nonneg (g := g) (n := i) (fun j hj => h j (by omega))
  have hp := bp_pos i
  rw [nv_shift, Int.add_mul_ediv_left _ _ (by omega), Int.ediv_eq_zero_of_lt h1.1 h1.2, show i + m - i = m by omega]
  omega
/-- eighteen digits are two limbs -/
theorem nv_two {g : Nat → Int} {n i : Nat} (h : ∀ j, j < n → 0 ≤ g j ∧ g j < 1000000000) : nv g n / 1000000000 ^ i % 1000000000000000000 = (if i < n then g i else 0) + (if i + 1 < n then g (i + 1) else 0) * 1000000000 := by
  rcases Nat.lt_or_ge i n with q | q
  · rw [nv_div h (by omega), if_pos q]
    rcases Nat.lt_or_ge (i + 1) n with r | r
    · rw [if_pos r]
      obtain ⟨m, hm⟩ : ∃ m, n - i = 2 + m := ⟨n - i - 2, by omega⟩
      have h0 := h i q
      have h1 := h (i + 1) r
      rw [hm, nv_shift]
      show (0 + g (i + 0) * 1 + g (i + 1) * 1000000000 + 1000000000000000000 * _) % _ = _
      rw [Int.add_mul_emod_self_left, Nat.add_zero]
      omega
    · rw [if_neg (by omega)]
      have h0 := h i q
      rw [show n - i = 1 by omega]
      show (0 + g (i + 0) * 1) % _ = _
      rw [Nat.add_zero]
      omega
  · have h1 := nv_nonneg h
    have h2 := bp_mono q
    rw [if_neg (by omega), if_neg (by omega), Int.ediv_eq_zero_of_lt h1.1 (by omega)]
    rfl
section WHQ
variable {X : Nat × (Nat → Int32)}
theorem wp_copy_loop {d t l cap ta la ca n : Nat} {h0 : am_H} {n0 : Int} {g0 ga : Nat → Int} {Q : Option Value → am_H → Prop} (ht : h0[t]? = some (.inr (cWh, [.ref l, .int (iI n0)]))) (hl : h0[l]? = some (am_la cap g0)) (hta : h0[ta]? = some (.inr (cWh, [.ref la, .int (iI n)]))) (hla : h0[la]? = some (am_la ca ga)) (hcap : cap ≤ 1000000) (hca : ca ≤ 1000000) (hn : n ≤ cap) (hna : n ≤ ca) (hd : l ≠ la)
    (K : ∀ g : Nat → Int, (∀ j, j < n → g j = ga j) → Q none ((h0.set l (am_la cap g)).set t (.inr (cWh, [.ref l, .int (iI n)])))) :
    ∀ (m i : Nat) (g : Nat → Int), i + m = n → (∀ j, j < i → g j = ga j) → am_w X d 87 (27, [.ref t, .ref ta, .int (iI n), .int (iI i)], [], h0.set l (am_la cap g)) Q := by
  have hne : l ≠ t := fun e => am_oa ht hl e.symm
  have hne2 : l ≠ ta := fun e => am_oa hta hl e.symm
  intro m
  induction m with
  | zero =>
    intro i g hm hg
    have c_t : (h0.set l (am_la cap g))[t]? = some (.inr (cWh, [.ref l, .int (iI n0)])) := by rw [am_set_n hne]; exact ht
    refine wr_iload_n rfl rfl rfl ?_
    refine wr_iload_n rfl rfl rfl ?_
    refine wr_icmp_ge rfl rfl rfl (by omega) (by omega) (fun c29 => ?_) (fun c29 => ?_)
    ·
      refine wr_aload_n rfl rfl rfl ?_
      refine wr_iload_n rfl rfl rfl ?_
      refine wr_putI (ci := 5) (f := 1) (fs' := [_, _]) rfl rfl rfl (by assumption) rfl rfl rfl (fun h1 e1 => ?_)
      refine wr_vret rfl rfl ?_
      rw [e1]
      exact K g (fun j hj => hg j (by omega))
    · exfalso; omega
  | succ m ih =>
    intro i g hm hg
    have c_t : (h0.set l (am_la cap g))[t]? = some (.inr (cWh, [.ref l, .int (iI n0)])) := by rw [am_set_n hne]; exact ht
    have c_l : (h0.set l (am_la cap g))[l]? = some (am_la cap g) := am_set_s hl
    have c_ta : (h0.set l (am_la cap g))[ta]? = some (.inr (cWh, [.ref la, .int (iI n)])) := by rw [am_set_n hne2]; exact hta
    have c_la : (h0.set l (am_la cap g))[la]? = some (am_la ca ga) := by rw [am_set_n hd]; exact hla
    refine wr_iload_n rfl rfl rfl ?_
    refine wr_iload_n rfl rfl rfl ?_
    refine wr_icmp_ge rfl rfl rfl (by omega) (by omega) (fun c29 => ?_) (fun c29 => ?_)
    · exfalso; omega
    ·
      refine wr_aload_n rfl rfl rfl ?_
      refine wr_get (ci := 5) (f := 0) rfl rfl rfl (by assumption) rfl ?_
      refine wr_iload_n rfl rfl rfl ?_
      refine wr_aload_n rfl rfl rfl ?_
      refine wr_get (ci := 5) (f := 0) rfl rfl rfl (by assumption) rfl ?_
      refine wr_iload_n rfl rfl rfl ?_
      refine wr_lald rfl rfl (by assumption) (by omega) (by omega) ?_
      refine wr_last rfl rfl (by assumption) (by omega) (by omega) (fun h1 e1 => ?_)
      rw [List.set_set, Int.toNat_natCast] at e1
      subst e1
      refine wr_iinc (ls' := [_, _, _, _]) rfl rfl rfl rfl ?_
      refine wr_goto rfl rfl ?_
      rw [show (i : Int) + 1 = ((i + 1 : Nat) : Int) by omega]
      refine ih (i + 1) (updI g i (ga i)) (by omega) (fun j hj => ?_)
      by_cases e : j = i
      · subst e
        rw [updI_s]
      · rw [updI_n e]
        exact hg j (by omega)
theorem wp_copy {d t l cap ta la ca : Nat} {h : am_H} {v0 v : Int} (ht : isW h t l cap v0) (ha : isW h ta la ca v) (hcap : cap ≤ 1000000) (hca : ca ≤ 1000000) (hd : l ≠ la) (hfit : v < 1000000000 ^ cap) :
    am_c X (d + 1) 87 [.ref t, .ref ta] h (fun r h' => r = none ∧ isW h' t l cap v ∧ fr [t, l] h h') := by
  obtain ⟨g0, n0, c_t, c_l, q1, q2, q3⟩ := ht
  obtain ⟨ga, n, c_ta, c_la, p1, p2, p3⟩ := ha
  have hn : n ≤ cap := nv_fit p2 (by omega)
  have hne : l ≠ t := fun e => am_oa c_t c_l e.symm
  have J : am_w X d 87 (24, [.ref t, .ref ta, am_U, am_U], [.int (iI n)], h) (fun r h' => r = none ∧ isW h' t l cap v ∧ fr [t, l] h h') := by
    refine wr_istore_n (ls' := [_, _, _, _]) rfl rfl (Nat.le_of_ble_eq_true rfl) rfl ?_
    refine wr_iconst rfl rfl ?_
    refine wr_istore_n (ls' := [_, _, _, _]) rfl rfl (Nat.le_of_ble_eq_true rfl) rfl ?_
    have hw := wp_copy_loop (X := X) (d := d) (Q := fun r h' => r = none ∧ isW h' t l cap v ∧ fr [t, l] h h') c_t c_l c_ta c_la hcap hca hn p1 hd ?_ n 0 g0 (by omega) (fun j hj => by omega)
    · rw [am_set_id c_l] at hw
      exact hw
    · intro g hg
      refine ⟨rfl, ?_, fr_set2⟩
      rw [← p3, ← nv_congr hg]
      exact isW.mk2 c_t c_l hne hn (nok_congr p2 hg)
  refine am_c.of (Nat.le_of_ble_eq_true rfl) ?_
  show am_w _ _ _ (_, [_, _, _, _], _, _) _
  refine wr_aload_n rfl rfl rfl ?_
  refine wr_get (ci := 5) (f := 1) rfl rfl rfl (by assumption) rfl ?_
  refine wr_aload_n rfl rfl rfl ?_
  refine wr_get (ci := 5) (f := 0) rfl rfl rfl (by assumption) rfl ?_
  refine wr_alen rfl rfl (by assumption) (by decide) ?_
  refine wr_icmp_ge rfl rfl rfl (by omega) (by omega) (fun c9 => ?_) (fun c9 => ?_)
  ·
    refine wr_aload_n rfl rfl rfl ?_
    refine wr_get (ci := 5) (f := 0) rfl rfl rfl (by assumption) rfl ?_
    refine wr_alen rfl rfl (by assumption) (by decide) ?_
    rw [show (cap : Int) = n by omega]
    exact J
  ·
    refine wr_aload_n rfl rfl rfl ?_
    refine wr_get (ci := 5) (f := 1) rfl rfl rfl (by assumption) rfl ?_
    refine wr_goto rfl rfl ?_
    exact J
/-- eighteen digits, the k-th ones from below -/
theorem wp_eighteen {d t l cap : Nat} {h : am_H} {v k : Int} (ht : isW h t l cap v) (hcap : cap ≤ 1000000) (hk : 0 ≤ k ∧ k ≤ 1073741823) :
    am_c X (d + 1) 88 [.ref t, .int (iI k)] h (fun r h' => r = some (.long (lI (v / 1000000000 ^ (2 * k.toNat) % 1000000000000000000))) ∧ h' = h) := by
  obtain ⟨g, n, c_t, c_l, q1, q2, q3⟩ := ht
  subst q3
  have e0 := nv_two (g := g) (n := n) (i := 2 * k.toNat) q2.1
  refine am_c.of (Nat.le_of_ble_eq_true rfl) ?_
  show am_w _ _ _ (_, [_, _, _], _, _) _
  refine wr_iconst rfl rfl ?_
  refine wr_iload_n rfl rfl rfl ?_
  refine wr_imul rfl rfl ?_
  refine wr_istore_n (ls' := [_, _, _]) rfl rfl (Nat.le_of_ble_eq_true rfl) rfl ?_
  refine wr_iload_n rfl rfl rfl ?_
  refine wr_if_lt rfl rfl rfl (by omega) (fun c5 => ?_) (fun c5 => ?_)
  · exfalso; omega
  ·
    refine wr_iload_n rfl rfl rfl ?_
    refine wr_aload_n rfl rfl rfl ?_
    refine wr_get (ci := 5) (f := 1) rfl rfl rfl (by assumption) rfl ?_
    refine wr_icmp_lt rfl rfl rfl (by omega) (by omega) (fun c13 => ?_) (fun c13 => ?_)
    ·
      have d1 := q2.1 (2 * k.toNat) (by omega)
      rw [if_pos (by omega)] at e0
      refine wr_aload_n rfl rfl rfl ?_
      refine wr_get (ci := 5) (f := 0) rfl rfl rfl (by assumption) rfl ?_
      refine wr_iload_n rfl rfl rfl ?_
      refine wr_lald rfl rfl (by assumption) (by omega) (by omega) ?_
      refine wr_iload_n rfl rfl rfl ?_
      refine wr_iconst rfl rfl ?_
      refine wr_iadd rfl rfl ?_
      refine wr_aload_n rfl rfl rfl ?_
      refine wr_get (ci := 5) (f := 1) rfl rfl rfl (by assumption) rfl ?_
      refine wr_icmp_ge rfl rfl rfl (by omega) (by omega) (fun c31 => ?_) (fun c31 => ?_)
      ·
        refine wr_lconst (z := 0) rfl rfl rfl ?_
        refine wr_ladd rfl rfl ?_
        refine wr_lret rfl rfl ?_
        rw [if_neg (by omega)] at e0
        rw [e0, show (2 * k).toNat = 2 * k.toNat by omega, show g (2 * k.toNat) + 0 * 1000000000 = g (2 * k.toNat) + 0 by omega]
        exact ⟨rfl, rfl⟩
      ·
        refine wr_aload_n rfl rfl rfl ?_
        refine wr_get (ci := 5) (f := 0) rfl rfl rfl (by assumption) rfl ?_
        refine wr_iload_n rfl rfl rfl ?_
        refine wr_iconst rfl rfl ?_
        refine wr_iadd rfl rfl ?_
        refine wr_lald rfl rfl (by assumption) (by omega) (by omega) ?_
        refine wr_ldc2 (z := 1000000000) rfl rfl rfl (by decide) ?_
        refine wr_lmul rfl rfl ?_
        refine wr_goto rfl rfl ?_
        refine wr_ladd rfl rfl ?_
        refine wr_lret rfl rfl ?_
        rw [if_pos (by omega)] at e0
        rw [e0, show (2 * k).toNat = 2 * k.toNat by omega, show (2 * k + 1).toNat = 2 * k.toNat + 1 by omega]
        exact ⟨rfl, rfl⟩
    ·
      refine wr_lconst (z := 0) rfl rfl rfl ?_
      refine wr_lret rfl rfl ?_
      rw [e0, if_neg (by omega), if_neg (by omega)]
      exact ⟨rfl, rfl⟩
theorem wp_compare_loop {d t l cap ta la ca n : Nat} {h : am_H} {g ga : Nat → Int} {Q : Option Value → am_H → Prop} (c_t : h[t]? = some (.inr (cWh, [.ref l, .int (iI n)]))) (c_l : h[l]? = some (am_la cap g)) (c_ta : h[ta]? = some (.inr (cWh, [.ref la, .int (iI n)]))) (c_la : h[la]? = some (am_la ca ga)) (hcap : cap ≤ 1000000) (hca : ca ≤ 1000000) (hn : n ≤ cap) (hna : n ≤ ca) (hg : nok g n) (hga : nok ga n)
    (K : Q (some (.int (iI (cmpI (nv g n) (nv ga n))))) h) :
    ∀ i : Nat, i ≤ n → (∀ j, i ≤ j → j < n → g j = ga j) → am_w X d 98 (35, [.ref t, .ref ta, .int (iI ((i : Int) - 1))], [], h) Q := by
  intro i
  induction i with
  | zero =>
    intro hi he
    have h1 : nv g n = nv ga n := by
      have := nv_split (g := g) (g' := ga) (i := 0) (n := n) (by omega) he
      have h2 : nv g 0 = 0 := rfl
      have h3 : nv ga 0 = 0 := rfl
      omega
    refine wr_iload_n rfl rfl rfl ?_
    refine wr_if_lt rfl rfl rfl (by omega) (fun c36 => ?_) (fun c36 => ?_)
    ·
      refine wr_iconst rfl rfl ?_
      refine wr_iret rfl rfl ?_
      have h2 : cmpI (nv g n) (nv ga n) = 0 := by have := cmpI_cases (nv g n) (nv ga n); omega
      rw [h2] at K
      exact K
    · exfalso; omega
  | succ i ih =>
    intro hi he
    have d1 := hg.1 i (by omega)
    have d2 := hga.1 i (by omega)
    rw [show ((i + 1 : Nat) : Int) - 1 = i by omega]
    refine wr_iload_n rfl rfl rfl ?_
    refine wr_if_lt rfl rfl rfl (by omega) (fun c36 => ?_) (fun c36 => ?_)
    · exfalso; omega
    ·
      refine wr_aload_n rfl rfl rfl ?_
      refine wr_get (ci := 5) (f := 0) rfl rfl rfl (by assumption) rfl ?_
      refine wr_iload_n rfl rfl rfl ?_
      refine wr_lald rfl rfl (by assumption) (by omega) (by omega) ?_
      refine wr_aload_n rfl rfl rfl ?_
      refine wr_get (ci := 5) (f := 0) rfl rfl rfl (by assumption) rfl ?_
      refine wr_iload_n rfl rfl rfl ?_
      refine wr_lald rfl rfl (by assumption) (by omega) (by omega) ?_
      rw [Int.toNat_natCast]
      refine wr_l_eq rfl rfl rfl rfl rfl (by omega) (by omega) (fun c51 => ?_) (fun c51 => ?_)
      ·
        refine wr_iinc (ls' := [_, _, _]) rfl rfl rfl rfl ?_
        refine wr_goto rfl rfl ?_
        refine ih (by omega) (fun j h1 h2 => ?_)
        by_cases e : j = i
        · subst e; exact c51
        · exact he j (by omega) h2
      ·
        refine wr_aload_n rfl rfl rfl ?_
        refine wr_get (ci := 5) (f := 0) rfl rfl rfl (by assumption) rfl ?_
        refine wr_iload_n rfl rfl rfl ?_
        refine wr_lald rfl rfl (by assumption) (by omega) (by omega) ?_
        refine wr_aload_n rfl rfl rfl ?_
        refine wr_get (ci := 5) (f := 0) rfl rfl rfl (by assumption) rfl ?_
        refine wr_iload_n rfl rfl rfl ?_
        refine wr_lald rfl rfl (by assumption) (by omega) (by omega) ?_
        rw [Int.toNat_natCast]
        refine wr_l_le rfl rfl rfl rfl rfl (by omega) (by omega) (fun c67 => ?_) (fun c67 => ?_)
        ·
          refine wr_iconst rfl rfl ?_
          refine wr_iret rfl rfl ?_
          have h1 := nv_gt (g := ga) (g' := g) hga hg (i := i) (by omega) (fun j a b => (he j (by omega) b).symm) (by omega)
          have h2 : cmpI (nv g n) (nv ga n) = -1 := by have := cmpI_cases (nv g n) (nv ga n); omega
          rw [h2] at K
          exact K
        ·
          refine wr_iconst rfl rfl ?_
          refine wr_goto rfl rfl ?_
          refine wr_iret rfl rfl ?_
          have h1 := nv_gt (g := g) (g' := ga) hg hga (i := i) (by omega) (fun j a b => he j (by omega) b) (by omega)
          have h2 : cmpI (nv g n) (nv ga n) = 1 := by have := cmpI_cases (nv g n) (nv ga n); omega
          rw [h2] at K
          exact K
theorem wp_compare {d t l cap ta la ca : Nat} {h : am_H} {v va : Int} (ht : isW h t l cap v) (ha : isW h ta la ca va) (hcap : cap ≤ 1000000) (hca : ca ≤ 1000000) :
    am_c X (d + 1) 98 [.ref t, .ref ta] h (fun r h' => r = some (.int (iI (cmpI v va))) ∧ h' = h) := by
  obtain ⟨g, n, c_t, c_l, q1, q2, q3⟩ := ht
  obtain ⟨ga, na, c_ta, c_la, p1, p2, p3⟩ := ha
  subst q3 p3
  refine am_c.of (Nat.le_of_ble_eq_true rfl) ?_
  show am_w _ _ _ (_, [_, _, _], _, _) _
  refine wr_aload_n rfl rfl rfl ?_
  refine wr_get (ci := 5) (f := 1) rfl rfl rfl (by assumption) rfl ?_
  refine wr_aload_n rfl rfl rfl ?_
  refine wr_get (ci := 5) (f := 1) rfl rfl rfl (by assumption) rfl ?_
  refine wr_icmp_eq rfl rfl rfl (by omega) (by omega) (fun c8 => ?_) (fun c8 => ?_)
  ·
    obtain rfl : n = na := by omega
    refine wr_aload_n rfl rfl rfl ?_
    refine wr_get (ci := 5) (f := 1) rfl rfl rfl (by assumption) rfl ?_
    refine wr_iconst rfl rfl ?_
    refine wr_isub rfl rfl ?_
    refine wr_istore_n (ls' := [_, _, _]) rfl rfl (Nat.le_of_ble_eq_true rfl) rfl ?_
    exact wp_compare_loop c_t c_l c_ta c_la hcap hca q1 p1 q2 p2 ⟨rfl, rfl⟩ n (Nat.le_refl _) (fun j a b => by omega)
  ·
    refine wr_aload_n rfl rfl rfl ?_
    refine wr_get (ci := 5) (f := 1) rfl rfl rfl (by assumption) rfl ?_
    refine wr_aload_n rfl rfl rfl ?_
    refine wr_get (ci := 5) (f := 1) rfl rfl rfl (by assumption) rfl ?_
    refine wr_icmp_le rfl rfl rfl (by omega) (by omega) (fun c19 => ?_) (fun c19 => ?_)
    ·
      refine wr_iconst rfl rfl ?_
      refine wr_iret rfl rfl ?_
      have h1 := nv_short (g := ga) (g' := g) (n := na) (n' := n) p2 q2 (by omega)
      have h2 : cmpI (nv g n) (nv ga na) = -1 := by have := cmpI_cases (nv g n) (nv ga na); omega
      rw [h2]
      exact ⟨rfl, rfl⟩
    ·
      refine wr_iconst rfl rfl ?_
      refine wr_goto rfl rfl ?_
      refine wr_iret rfl rfl ?_
      have h1 := nv_short (g := g) (g' := ga) (n := n) (n' := na) q2 p2 (by omega)
      have h2 : cmpI (nv g n) (nv ga na) = 1 := by have := cmpI_cases (nv g n) (nv ga na); omega
      rw [h2]
      exact ⟨rfl, rfl⟩
end WHQ
