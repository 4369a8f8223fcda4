/-! WHOLE NUMBERS OF THE CLASS: product -/
theorem nv_at {g : Nat → Int} {p : Nat} {x : Int} : ∀ {n : Nat}, p < n → nv (updI g p x) n = nv g n + (x - g p) * 1000000000 ^ p
  | 0, h => by omega
  | n + 1, h => by
    show nv (updI g p x) n + updI g p x n * _ = nv g n + g n * _ + _
    by_cases e : p = n
    · subst e
      rw [updI_s, nv_congr (g := g) (g' := updI g p x) (fun i hi => updI_n (by omega))]
      grind
    · rw [updI_n (by omega), nv_at (n := n) (by omega)]
      omega
theorem nv_zero {g : Nat → Int} : ∀ {n : Nat}, (∀ j, j < n → g j = 0) → nv g n = 0
  | 0, _ => rfl
  | n + 1, h => by
    show nv g n + g n * _ = 0
    rw [nv_zero (n := n) (fun j hj => h j (by omega)), h n (by omega)]
    omega
theorem dig_at {g : Nat → Int} {n i : Nat} {x : Int} (h : ∀ j, j < n → 0 ≤ g j ∧ g j < 1000000000) (hx : 0 ≤ x ∧ x < 1000000000) : ∀ j, j < n → 0 ≤ updI g i x j ∧ updI g i x j < 1000000000 := by
  intro j hj
  by_cases e : j = i
  · subst e; rw [updI_s]; exact hx
  · rw [updI_n e]; exact h j hj
section WHT
variable {X : Nat × (Nat → Int32)}
theorem wp_prod_fill {d t l cap most ta tb : Nat} {h0 : am_H} {n0 bo : Int} {g0 : Nat → Int} {Q : Option Value → am_H → Prop} (ht : h0[t]? = some (.inr (cWh, [.ref l, .int (iI n0)]))) (hl : h0[l]? = some (am_la cap g0)) (hcap : cap ≤ 1000000) (hm0 : most ≤ cap)
    (K : ∀ g : Nat → Int, (∀ j, j < most → g j = 0) → am_w X d 97 (72, [.ref t, .ref ta, .ref tb, .int (iI bo), .int (iI most), am_U, am_U, am_U, am_U, am_U, am_U], [], h0.set l (am_la cap g)) Q) :
    ∀ (m i : Nat) (g : Nat → Int), i + m = most → (∀ j, j < i → g j = 0) → am_w X d 97 (51, [.ref t, .ref ta, .ref tb, .int (iI bo), .int (iI most), .int (iI i), am_U, am_U, am_U, am_U, am_U], [], h0.set l (am_la cap g)) Q := by
  have hne : l ≠ t := fun e => am_oa ht hl e.symm
  intro m
  induction m with
  | zero =>
    intro i g hm hg
    refine wr_iload rfl rfl rfl ?_
    refine wr_iload rfl rfl rfl ?_
    refine wr_icmp_ge rfl rfl rfl (by omega) (by omega) (fun c55 => ?_) (fun c55 => ?_)
    ·
      refine am_w.wk (ls' := [_, _, _, _, _, am_U, _, _, _, _, _]) ⟨Or.inr rfl, Or.inr rfl, Or.inr rfl, Or.inr rfl, Or.inr rfl, Or.inl rfl, Or.inr rfl, Or.inr rfl, Or.inr rfl, Or.inr rfl, Or.inr rfl, trivial⟩ ?_
      exact K g (fun j hj => hg j (by omega))
    · exfalso; omega
  | succ m ih =>
    intro i g hm hg
    have c_t : (h0.set l (am_la cap g))[t]? = some (.inr (cWh, [.ref l, .int (iI n0)])) := by rw [am_set_n hne]; exact ht
    have c_l : (h0.set l (am_la cap g))[l]? = some (am_la cap g) := am_set_s hl
    refine wr_iload rfl rfl rfl ?_
    refine wr_iload rfl rfl rfl ?_
    refine wr_icmp_ge rfl rfl rfl (by omega) (by omega) (fun c55 => ?_) (fun c55 => ?_)
    · exfalso; omega
    ·
      refine wr_aload_n rfl rfl rfl ?_
      refine wr_get (ci := 5) (f := 0) rfl rfl rfl (by assumption) rfl ?_
      refine wr_iload rfl rfl rfl ?_
      refine wr_lconst (z := 0) rfl rfl rfl ?_
      refine wr_last rfl rfl (by assumption) (by omega) (by omega) (fun h1 e1 => ?_)
      rw [List.set_set, Int.toNat_natCast] at e1
      subst e1
      refine wr_iinc (ls' := [_, _, _, _, _, _, _, _, _, _, _]) rfl rfl rfl rfl ?_
      refine wr_goto rfl rfl ?_
      rw [show (i : Int) + 1 = ((i + 1 : Nat) : Int) by omega]
      refine ih (i + 1) (updI g i 0) (by omega) (fun j hj => ?_)
      by_cases e : j = i
      · subst e; rw [updI_s]
      · rw [updI_n e]; exact hg j (by omega)
theorem wp_prod_inner {d t l cap ta la ca tb lb cb na nb i most : Nat} {h0 : am_H} {n0 bo V : Int} {g0 ga gb : Nat → Int} {Q : Option Value → am_H → Prop} (ht : h0[t]? = some (.inr (cWh, [.ref l, .int (iI n0)]))) (hl : h0[l]? = some (am_la cap g0)) (hta : h0[ta]? = some (.inr (cWh, [.ref la, .int (iI na)]))) (hla : h0[la]? = some (am_la ca ga)) (htb : h0[tb]? = some (.inr (cWh, [.ref lb, .int (iI nb)]))) (hlb : h0[lb]? = some (am_la cb gb))
    (hcap : cap ≤ 1000000) (hca : ca ≤ 1000000) (hcb : cb ≤ 1000000) (hna : na ≤ ca) (hnb : nb ≤ cb) (ka : nok ga na) (kb : nok gb nb) (hmost : most = na + nb) (hmc : most ≤ cap) (hi : i < na) (hda : l ≠ la) (hdb : l ≠ lb)
    (K : ∀ g : Nat → Int, (∀ j, j < most → 0 ≤ g j ∧ g j < 1000000000) → nv g most = V + ga i * nv gb nb * 1000000000 ^ i → (∀ j, i + nb + 1 ≤ j → j < most → g j = 0) → am_w X d 97 (186, [.ref t, .ref ta, .ref tb, .int (iI bo), .int (iI most), .int (iI i), am_U, am_U, am_U, am_U, am_U], [], h0.set l (am_la cap g)) Q) :
    ∀ (m j : Nat) (g : Nat → Int) (c : Int), j + m = nb + 1 → 0 ≤ c → c < 1000000000 → (j = nb + 1 → c = 0) → (∀ p, p < most → 0 ≤ g p ∧ g p < 1000000000) → nv g most + c * 1000000000 ^ (i + j) = V + ga i * nv (ext gb nb) j * 1000000000 ^ i → (∀ p, i + nb + 1 ≤ p → p < most → g p = 0) → (j ≤ nb → g (i + nb) = 0) → am_w X d 97 (90, [.ref t, .ref ta, .ref tb, .int (iI bo), .int (iI most), .int (iI i), .long (lI c), am_U, .int (iI j), am_U, am_U], [], h0.set l (am_la cap g)) Q := by
  have hne : l ≠ t := fun e => am_oa ht hl e.symm
  have hne2 : l ≠ ta := fun e => am_oa hta hl e.symm
  have hne3 : l ≠ tb := fun e => am_oa htb hl e.symm
  intro m
  induction m with
  | zero =>
    intro j g c hm hc0 hc1 hc2 hg he hz1 hz2
    have c_tb : (h0.set l (am_la cap g))[tb]? = some (.inr (cWh, [.ref lb, .int (iI nb)])) := by rw [am_set_n hne3]; exact htb
    refine wr_iload rfl rfl rfl ?_
    refine wr_aload_n rfl rfl rfl ?_
    refine wr_get (ci := 5) (f := 1) rfl rfl rfl (by assumption) rfl ?_
    refine wr_icmp_gt rfl rfl rfl (by omega) (by omega) (fun c96 => ?_) (fun c96 => ?_)
    ·
      refine am_w.wk (ls' := [_, _, _, _, _, _, am_U, _, am_U, _, _]) ⟨Or.inr rfl, Or.inr rfl, Or.inr rfl, Or.inr rfl, Or.inr rfl, Or.inr rfl, Or.inl rfl, Or.inr rfl, Or.inl rfl, Or.inr rfl, Or.inr rfl, trivial⟩ ?_
      refine K g hg ?_ hz1
      have e0 := hc2 (by omega)
      subst e0
      rw [nv_ext (by omega)] at he
      omega
    · exfalso; omega
  | succ m ih =>
    intro j g c hm hc0 hc1 hc2 hg he hz1 hz2
    have c_t : (h0.set l (am_la cap g))[t]? = some (.inr (cWh, [.ref l, .int (iI n0)])) := by rw [am_set_n hne]; exact ht
    have c_l : (h0.set l (am_la cap g))[l]? = some (am_la cap g) := am_set_s hl
    have c_ta : (h0.set l (am_la cap g))[ta]? = some (.inr (cWh, [.ref la, .int (iI na)])) := by rw [am_set_n hne2]; exact hta
    have c_la : (h0.set l (am_la cap g))[la]? = some (am_la ca ga) := by rw [am_set_n hda]; exact hla
    have c_tb : (h0.set l (am_la cap g))[tb]? = some (.inr (cWh, [.ref lb, .int (iI nb)])) := by rw [am_set_n hne3]; exact htb
    have c_lb : (h0.set l (am_la cap g))[lb]? = some (am_la cb gb) := by rw [am_set_n hdb]; exact hlb
    have xa := ka.1 i hi
    have xb := ext_in kb j
    have xg := hg (i + j) (by omega)
    have xm : 0 ≤ ga i * ext gb nb j ∧ ga i * ext gb nb j ≤ 999999999 * 999999999 := by
      refine ⟨Int.mul_nonneg (by omega) (by omega), ?_⟩
      have y1 : ga i * ext gb nb j ≤ 999999999 * ext gb nb j := Int.mul_le_mul_of_nonneg_right (by omega) (by omega)
      omega
    obtain ⟨s, hs⟩ : ∃ s, s = g (i + j) + c + ga i * ext gb nb j := ⟨_, rfl⟩
    obtain ⟨c', hc'⟩ : ∃ c', c' = s / 1000000000 := ⟨_, rfl⟩
    obtain ⟨x, hxe⟩ : ∃ x, x = s - c' * 1000000000 := ⟨_, rfl⟩
    have hx : 0 ≤ x ∧ x < 1000000000 ∧ 0 ≤ c' ∧ c' < 1000000000 := by omega
    have J2 : am_w X d 97 (150, [.ref t, .ref ta, .ref tb, .int (iI bo), .int (iI most), .int (iI i), .long (lI c), am_U, .int (iI j), am_U, am_U], [.long (lI (ga i * ext gb nb j)), .long (lI (g (i + j) + c))], h0.set l (am_la cap g)) Q := by
      refine wr_ladd rfl rfl ?_
      refine wr_lstore (ls' := [_, _, _, _, _, _, _, _, _, _, _]) rfl rfl (Nat.le_of_ble_eq_true rfl) rfl ?_
      rw [← hs]
      refine wr_lload rfl rfl rfl ?_
      refine wr_ldc2 (z := 1000000000) rfl rfl rfl (by decide) ?_
      refine wr_ldivN rfl rfl (by omega) (by omega) (by omega) (by omega) ?_
      rw [← hc']
      refine wr_lstore (ls' := [_, _, _, _, _, _, _, _, _, _, _]) rfl rfl (Nat.le_of_ble_eq_true rfl) rfl ?_
      refine wr_aload_n rfl rfl rfl ?_
      refine wr_get (ci := 5) (f := 0) rfl rfl rfl (by assumption) rfl ?_
      refine wr_iload rfl rfl rfl ?_
      refine wr_iload rfl rfl rfl ?_
      refine wr_iadd rfl rfl ?_
      refine wr_lload rfl rfl rfl ?_
      refine wr_lload rfl rfl rfl ?_
      refine wr_ldc2 (z := 1000000000) rfl rfl rfl (by decide) ?_
      refine wr_lmul rfl rfl ?_
      refine wr_lsub rfl rfl ?_
      refine wr_last rfl rfl (by assumption) (by omega) (by omega) (fun h1 e1 => ?_)
      rw [List.set_set, show ((i : Int) + j).toNat = i + j by omega, ← hxe] at e1
      subst e1
      refine wr_iinc (ls' := [_, _, _, _, _, _, _, _, _, _, _]) rfl rfl rfl rfl ?_
      refine wr_goto rfl rfl ?_
      refine am_w.wk (ls' := [_, _, _, _, _, _, _, _, _, am_U, _]) ⟨Or.inr rfl, Or.inr rfl, Or.inr rfl, Or.inr rfl, Or.inr rfl, Or.inr rfl, Or.inr rfl, Or.inr rfl, Or.inr rfl, Or.inl rfl, Or.inr rfl, trivial⟩ ?_
      rw [show (j : Int) + 1 = ((j + 1 : Nat) : Int) by omega]
      refine ih (j + 1) (updI g (i + j) x) c' (by omega) (by omega) (by omega) (fun q => ?_) (dig_at hg (by omega)) ?_ (fun p q1 q2 => ?_) (fun q => ?_)
      · have y1 := hz2 (by omega)
        rw [show i + nb = i + j by omega] at y1
        rw [ext_ge (by omega)] at hs
        omega
      · rw [nv_at (by omega)]
        show _ = V + ga i * (nv (ext gb nb) j + ext gb nb j * 1000000000 ^ j) * 1000000000 ^ i
        rw [show i + (j + 1) = (i + j) + 1 by omega, Int.pow_succ]
        rw [Int.pow_add] at he ⊢
        generalize (1000000000 : Int) ^ i = p at he ⊢
        generalize (1000000000 : Int) ^ j = r at he ⊢
        generalize nv (ext gb nb) j = A at he ⊢
        generalize nv g most = G at he ⊢
        clear hc'
        subst hxe hs
        grind
      · rw [updI_n (by omega)]
        exact hz1 p q1 q2
      · rw [updI_n (by omega)]
        exact hz2 (by omega)
    refine wr_iload rfl rfl rfl ?_
    refine wr_aload_n rfl rfl rfl ?_
    refine wr_get (ci := 5) (f := 1) rfl rfl rfl (by assumption) rfl ?_
    refine wr_icmp_gt rfl rfl rfl (by omega) (by omega) (fun c96 => ?_) (fun c96 => ?_)
    · exfalso; omega
    ·
      refine wr_iload rfl rfl rfl ?_
      refine wr_iload rfl rfl rfl ?_
      refine wr_iadd rfl rfl ?_
      refine wr_iload rfl rfl rfl ?_
      refine wr_icmp_ge rfl rfl rfl (by omega) (by omega) (fun c106 => ?_) (fun c106 => ?_)
      · exfalso; omega
      ·
        refine wr_aload_n rfl rfl rfl ?_
        refine wr_get (ci := 5) (f := 0) rfl rfl rfl (by assumption) rfl ?_
        refine wr_iload rfl rfl rfl ?_
        refine wr_iload rfl rfl rfl ?_
        refine wr_iadd rfl rfl ?_
        refine wr_lald rfl rfl (by assumption) (by omega) (by omega) ?_
        rw [show ((i : Int) + j).toNat = i + j by omega]
        refine wr_lload rfl rfl rfl ?_
        refine wr_ladd rfl rfl ?_
        refine wr_iload rfl rfl rfl ?_
        refine wr_aload_n rfl rfl rfl ?_
        refine wr_get (ci := 5) (f := 1) rfl rfl rfl (by assumption) rfl ?_
        refine wr_icmp_ge rfl rfl rfl (by omega) (by omega) (fun c128 => ?_) (fun c128 => ?_)
        ·
          refine wr_lconst (z := 0) rfl rfl rfl ?_
          rw [show (0 : Int) = ga i * ext gb nb j by rw [ext_ge (by omega)]; omega]
          exact J2
        ·
          refine wr_aload_n rfl rfl rfl ?_
          refine wr_get (ci := 5) (f := 0) rfl rfl rfl (by assumption) rfl ?_
          refine wr_iload rfl rfl rfl ?_
          refine wr_lald rfl rfl (by assumption) (by omega) (by omega) ?_
          refine wr_aload_n rfl rfl rfl ?_
          refine wr_get (ci := 5) (f := 0) rfl rfl rfl (by assumption) rfl ?_
          refine wr_iload rfl rfl rfl ?_
          refine wr_lald rfl rfl (by assumption) (by omega) (by omega) ?_
          refine wr_lmul rfl rfl ?_
          refine wr_goto rfl rfl ?_
          rw [Int.toNat_natCast, Int.toNat_natCast, ← ext_lt (g := gb) (n := nb) (j := j) (by omega)]
          exact J2
theorem wp_prod_outer {d t l cap ta la ca tb lb cb na nb most : Nat} {h0 : am_H} {n0 bo : Int} {g0 ga gb : Nat → Int} {Q : Option Value → am_H → Prop} (ht : h0[t]? = some (.inr (cWh, [.ref l, .int (iI n0)]))) (hl : h0[l]? = some (am_la cap g0)) (hta : h0[ta]? = some (.inr (cWh, [.ref la, .int (iI na)]))) (hla : h0[la]? = some (am_la ca ga)) (htb : h0[tb]? = some (.inr (cWh, [.ref lb, .int (iI nb)]))) (hlb : h0[lb]? = some (am_la cb gb))
    (hcap : cap ≤ 1000000) (hca : ca ≤ 1000000) (hcb : cb ≤ 1000000) (hna : na ≤ ca) (hnb : nb ≤ cb) (ka : nok ga na) (kb : nok gb nb) (hmost : most = na + nb) (hmc : most ≤ cap) (hda : l ≠ la) (hdb : l ≠ lb)
    (K : ∀ g : Nat → Int, (∀ j, j < most → 0 ≤ g j ∧ g j < 1000000000) → nv g most = nv ga na * nv gb nb → am_w X d 97 (192, [.ref t, .ref ta, .ref tb, .int (iI bo), .int (iI most), am_U, am_U, am_U, am_U, am_U, am_U], [], h0.set l (am_la cap g)) Q) :
    ∀ (m i : Nat) (g : Nat → Int), i + m = na → (∀ p, p < most → 0 ≤ g p ∧ g p < 1000000000) → nv g most = nv ga i * nv gb nb → (∀ p, i + nb ≤ p → p < most → g p = 0) → am_w X d 97 (75, [.ref t, .ref ta, .ref tb, .int (iI bo), .int (iI most), .int (iI i), am_U, am_U, am_U, am_U, am_U], [], h0.set l (am_la cap g)) Q := by
  have hne : l ≠ t := fun e => am_oa ht hl e.symm
  have hne2 : l ≠ ta := fun e => am_oa hta hl e.symm
  intro m
  induction m with
  | zero =>
    intro i g hm hg he hz
    have c_ta : (h0.set l (am_la cap g))[ta]? = some (.inr (cWh, [.ref la, .int (iI na)])) := by rw [am_set_n hne2]; exact hta
    obtain rfl : i = na := by omega
    refine wr_iload rfl rfl rfl ?_
    refine wr_aload_n rfl rfl rfl ?_
    refine wr_get (ci := 5) (f := 1) rfl rfl rfl (by assumption) rfl ?_
    refine wr_icmp_ge rfl rfl rfl (by omega) (by omega) (fun c81 => ?_) (fun c81 => ?_)
    ·
      refine am_w.wk (ls' := [_, _, _, _, _, am_U, _, _, _, _, _]) ⟨Or.inr rfl, Or.inr rfl, Or.inr rfl, Or.inr rfl, Or.inr rfl, Or.inl rfl, Or.inr rfl, Or.inr rfl, Or.inr rfl, Or.inr rfl, Or.inr rfl, trivial⟩ ?_
      exact K g hg he
    · exfalso; omega
  | succ m ih =>
    intro i g hm hg he hz
    have c_ta : (h0.set l (am_la cap g))[ta]? = some (.inr (cWh, [.ref la, .int (iI na)])) := by rw [am_set_n hne2]; exact hta
    refine wr_iload rfl rfl rfl ?_
    refine wr_aload_n rfl rfl rfl ?_
    refine wr_get (ci := 5) (f := 1) rfl rfl rfl (by assumption) rfl ?_
    refine wr_icmp_ge rfl rfl rfl (by omega) (by omega) (fun c81 => ?_) (fun c81 => ?_)
    · exfalso; omega
    ·
      refine wr_lconst (z := 0) rfl rfl rfl ?_
      refine wr_lstore (ls' := [_, _, _, _, _, _, _, _, _, _, _]) rfl rfl (Nat.le_of_ble_eq_true rfl) rfl ?_
      refine wr_iconst rfl rfl ?_
      refine wr_istore (ls' := [_, _, _, _, _, _, _, _, _, _, _]) rfl rfl (Nat.le_of_ble_eq_true rfl) rfl ?_
      refine wp_prod_inner (V := nv ga i * nv gb nb) ht hl hta hla htb hlb hcap hca hcb hna hnb ka kb hmost hmc (by omega) hda hdb ?_ (nb + 1) 0 g 0 (by omega) (by omega) (by omega) (by omega) hg ?_ (fun p q1 q2 => hz p (by omega) q2) (fun q => hz (i + nb) (by omega) (by omega))
      · intro g' hg' he' hz'
        refine wr_iinc (ls' := [_, _, _, _, _, _, _, _, _, _, _]) rfl rfl rfl rfl ?_
        refine wr_goto rfl rfl ?_
        rw [show (i : Int) + 1 = ((i + 1 : Nat) : Int) by omega]
        refine ih (i + 1) g' (by omega) hg' ?_ (fun p q1 q2 => hz' p (by omega) q2)
        rw [he']
        show _ = (nv ga i + ga i * 1000000000 ^ i) * _
        grind
      · rw [he]
        show _ + 0 * _ = _ + ga i * 0 * _
        omega
/-- the end: the highest limb, if it is 0, is none -/
theorem wp_prod_end {d t l cap ta tb most : Nat} {h : am_H} {n0 bo v : Int} {g : Nat → Int} {Q : Option Value → am_H → Prop} (c_t : h[t]? = some (.inr (cWh, [.ref l, .int (iI n0)]))) (c_l : h[l]? = some (am_la cap g)) (hcap : cap ≤ 1000000) (hm0 : most ≤ cap)
    (K : ∀ n : Nat, (n = most ∧ (0 < most → g (most - 1) ≠ 0)) ∨ (n + 1 = most ∧ g n = 0) → Q none (h.set t (.inr (cWh, [.ref l, .int (iI n)])))) (hg : ∀ j, j < most → 0 ≤ g j ∧ g j < 1000000000) :
    am_w X d 97 (192, [.ref t, .ref ta, .ref tb, .int (iI bo), .int (iI most), am_U, am_U, am_U, am_U, am_U, am_U], [], h) Q := by
  refine wr_aload_n rfl rfl rfl ?_
  refine wr_iload rfl rfl rfl ?_
  refine wr_if_le rfl rfl rfl (by omega) (fun c195 => ?_) (fun c195 => ?_)
  ·
    refine wr_iload rfl rfl rfl ?_
    refine wr_putI (ci := 5) (f := 1) (fs' := [_, _]) rfl rfl rfl (by assumption) rfl rfl rfl (fun h1 e1 => ?_)
    refine wr_vret rfl rfl ?_
    rw [e1]
    exact K most (Or.inl ⟨rfl, fun q => by omega⟩)
  ·
    have xg := hg (most - 1) (by omega)
    refine wr_aload_n rfl rfl rfl ?_
    refine wr_get (ci := 5) (f := 0) rfl rfl rfl (by assumption) rfl ?_
    refine wr_iload rfl rfl rfl ?_
    refine wr_iconst rfl rfl ?_
    refine wr_isub rfl rfl ?_
    rw [show (most : Int) - 1 = ((most - 1 : Nat) : Int) by omega]
    refine wr_lald rfl rfl (by assumption) (by omega) (by omega) ?_
    refine wr_lconst (z := 0) rfl rfl rfl ?_
    rw [Int.toNat_natCast]
    refine wr_l_ne rfl rfl rfl rfl rfl (by omega) (by omega) (fun c208 => ?_) (fun c208 => ?_)
    ·
      refine wr_iload rfl rfl rfl ?_
      refine wr_putI (ci := 5) (f := 1) (fs' := [_, _]) rfl rfl rfl (by assumption) rfl rfl rfl (fun h1 e1 => ?_)
      refine wr_vret rfl rfl ?_
      rw [e1]
      exact K most (Or.inl ⟨rfl, fun q => c208⟩)
    ·
      refine wr_iload rfl rfl rfl ?_
      refine wr_iconst rfl rfl ?_
      refine wr_isub rfl rfl ?_
      refine wr_goto rfl rfl ?_
      rw [show (most : Int) - 1 = ((most - 1 : Nat) : Int) by omega]
      refine wr_putI (ci := 5) (f := 1) (fs' := [_, _]) rfl rfl rfl (by assumption) rfl rfl rfl (fun h1 e1 => ?_)
      refine wr_vret rfl rfl ?_
      rw [e1]
      exact K (most - 1) (Or.inr ⟨by omega, by omega⟩)
/-- one of them is 0 -/
theorem wp_prod_none {d t ta la tb lb na nb : Nat} {h : am_H} {Q : Option Value → am_H → Prop} (c_ta : h[ta]? = some (.inr (cWh, [.ref la, .int (iI na)]))) (c_tb : h[tb]? = some (.inr (cWh, [.ref lb, .int (iI nb)]))) (hna : na ≤ 1000000) (hnb : nb ≤ 1000000)
    (K : am_w X d 97 (192, [.ref t, .ref ta, .ref tb, .int (iI 0), .int (iI 0), am_U, am_U, am_U, am_U, am_U, am_U], [], h) Q) :
    ∀ (m i : Nat), i + m = na → am_w X d 97 (75, [.ref t, .ref ta, .ref tb, .int (iI 0), .int (iI 0), .int (iI i), am_U, am_U, am_U, am_U, am_U], [], h) Q := by
  intro m
  induction m with
  | zero =>
    intro i hm
    refine wr_iload rfl rfl rfl ?_
    refine wr_aload_n rfl rfl rfl ?_
    refine wr_get (ci := 5) (f := 1) rfl rfl rfl (by assumption) rfl ?_
    refine wr_icmp_ge rfl rfl rfl (by omega) (by omega) (fun c81 => ?_) (fun c81 => ?_)
    ·
      refine am_w.wk (ls' := [_, _, _, _, _, am_U, _, _, _, _, _]) ⟨Or.inr rfl, Or.inr rfl, Or.inr rfl, Or.inr rfl, Or.inr rfl, Or.inl rfl, Or.inr rfl, Or.inr rfl, Or.inr rfl, Or.inr rfl, Or.inr rfl, trivial⟩ ?_
      exact K
    · exfalso; omega
  | succ m ih =>
    intro i hm
    refine wr_iload rfl rfl rfl ?_
    refine wr_aload_n rfl rfl rfl ?_
    refine wr_get (ci := 5) (f := 1) rfl rfl rfl (by assumption) rfl ?_
    refine wr_icmp_ge rfl rfl rfl (by omega) (by omega) (fun c81 => ?_) (fun c81 => ?_)
    · exfalso; omega
    ·
      refine wr_lconst (z := 0) rfl rfl rfl ?_
      refine wr_lstore (ls' := [_, _, _, _, _, _, _, _, _, _, _]) rfl rfl (Nat.le_of_ble_eq_true rfl) rfl ?_
      refine wr_iconst rfl rfl ?_
      refine wr_istore (ls' := [_, _, _, _, _, _, _, _, _, _, _]) rfl rfl (Nat.le_of_ble_eq_true rfl) rfl ?_
      refine wr_iload rfl rfl rfl ?_
      refine wr_aload_n rfl rfl rfl ?_
      refine wr_get (ci := 5) (f := 1) rfl rfl rfl (by assumption) rfl ?_
      refine wr_icmp_gt rfl rfl rfl (by omega) (by omega) (fun c96 => ?_) (fun c96 => ?_)
      · exfalso; omega
      ·
        refine wr_iload rfl rfl rfl ?_
        refine wr_iload rfl rfl rfl ?_
        refine wr_iadd rfl rfl ?_
        refine wr_iload rfl rfl rfl ?_
        refine wr_icmp_ge rfl rfl rfl (by omega) (by omega) (fun c106 => ?_) (fun c106 => ?_)
        ·
          refine wr_iinc (ls' := [_, _, _, _, _, _, _, _, _, _, _]) rfl rfl rfl rfl ?_
          refine wr_goto rfl rfl ?_
          refine am_w.wk (ls' := [_, _, _, _, _, _, am_U, _, am_U, _, _]) ⟨Or.inr rfl, Or.inr rfl, Or.inr rfl, Or.inr rfl, Or.inr rfl, Or.inr rfl, Or.inl rfl, Or.inr rfl, Or.inl rfl, Or.inr rfl, Or.inr rfl, trivial⟩ ?_
          rw [show (i : Int) + 1 = ((i + 1 : Nat) : Int) by omega]
          exact ih (i + 1) (by omega)
        · exfalso; omega
theorem wp_product {d t l cap ta la ca tb lb cb : Nat} {h : am_H} {v0 va vb : Int} (ht : isW h t l cap v0) (ha : isW h ta la ca va) (hb : isW h tb lb cb vb) (hcap : 0 < cap ∧ cap ≤ 1000000) (hca : ca ≤ 1000000) (hcb : cb ≤ 1000000) (hda : l ≠ la) (hdb : l ≠ lb) (hfit : va * vb < 1000000000 ^ (cap - 1)) :
    am_c X (d + 1) 97 [.ref t, .ref ta, .ref tb] h (fun r h' => r = none ∧ isW h' t l cap (va * vb) ∧ fr [t, l] h h') := by
  obtain ⟨g0, n0, c_t, c_l, q1, q2, q3⟩ := ht
  obtain ⟨ga, na, c_ta, c_la, p1, p2, p3⟩ := ha
  obtain ⟨gb, nb, c_tb, c_lb, r1, r2, r3⟩ := hb
  have s1 := nv_nonneg p2.1
  have s2 := nv_nonneg r2.1
  have hne : l ≠ t := fun e => am_oa c_t c_l e.symm
  have Z : (na = 0 ∨ nb = 0) → am_w X d 97 (26, [.ref t, .ref ta, .ref tb, am_U, am_U, am_U, am_U, am_U, am_U, am_U, am_U], [], h) (fun r h' => r = none ∧ isW h' t l cap (va * vb) ∧ fr [t, l] h h') := by
    intro hz
    have hv : va * vb = 0 := by
      rcases hz with q | q
      · subst q
        rw [← p3]
        show 0 * vb = 0
        omega
      · subst q
        rw [← r3]
        show va * 0 = 0
        omega
    refine wr_iconst rfl rfl ?_
    refine wr_istore_n (ls' := [_, _, _, _, _, _, _, _, _, _, _]) rfl rfl (Nat.le_of_ble_eq_true rfl) rfl ?_
    refine wr_iload_n rfl rfl rfl ?_
    refine wr_aload_n rfl rfl rfl ?_
    refine wr_get (ci := 5) (f := 0) rfl rfl rfl (by assumption) rfl ?_
    refine wr_alen rfl rfl (by assumption) (by decide) ?_
    refine wr_icmp_ge rfl rfl rfl (by omega) (by omega) (fun c34 => ?_) (fun c34 => ?_)
    · exfalso; omega
    ·
      refine wr_iload_n rfl rfl rfl ?_
      refine wr_goto rfl rfl ?_
      refine wr_istore (ls' := [_, _, _, _, _, _, _, _, _, _, _]) rfl rfl (Nat.le_of_ble_eq_true rfl) rfl ?_
      refine wr_iconst rfl rfl ?_
      refine wr_istore (ls' := [_, _, _, _, _, _, _, _, _, _, _]) rfl rfl (Nat.le_of_ble_eq_true rfl) rfl ?_
      refine wr_iload rfl rfl rfl ?_
      refine wr_iload rfl rfl rfl ?_
      refine wr_icmp_ge rfl rfl rfl (by omega) (by omega) (fun c55 => ?_) (fun c55 => ?_)
      ·
        refine wr_iconst rfl rfl ?_
        refine wr_istore (ls' := [_, _, _, _, _, _, _, _, _, _, _]) rfl rfl (Nat.le_of_ble_eq_true rfl) rfl ?_
        refine wp_prod_none c_ta c_tb (by omega) (by omega) ?_ na 0 (by omega)
        refine wp_prod_end (most := 0) (v := 0) c_t c_l hcap.2 (by omega) ?_ (fun j hj => by omega)
        intro n hn
        obtain rfl : n = 0 := by omega
        refine ⟨rfl, ?_, ?_⟩
        · rw [hv]
          exact ⟨g0, 0, am_set_s c_t, by rw [am_set_n (Ne.symm hne)]; exact c_l, by omega, ⟨fun j hj => by omega, fun q => by omega⟩, rfl⟩
        · refine ⟨by simp, fun i hi => am_set_n (fun q => hi (by simp [q]))⟩
      · exfalso; omega
  refine am_c.of (Nat.le_of_ble_eq_true rfl) ?_
  show am_w _ _ _ (_, [_, _, _, _, _, _, _, _, _, _, _], _, _) _
  refine wr_aload_n rfl rfl rfl ?_
  refine wr_get (ci := 5) (f := 1) rfl rfl rfl (by assumption) rfl ?_
  refine wr_if_le rfl rfl rfl (by omega) (fun c4 => ?_) (fun c4 => ?_)
  · exact Z (Or.inl (by omega))
  ·
    refine wr_aload_n rfl rfl rfl ?_
    refine wr_get (ci := 5) (f := 1) rfl rfl rfl (by assumption) rfl ?_
    refine wr_if_le rfl rfl rfl (by omega) (fun c11 => ?_) (fun c11 => ?_)
    · exact Z (Or.inr (by omega))
    ·
      have b1 := nv_low p2 (by omega)
      have b2 := nv_low r2 (by omega)
      have b3 : (1000000000 : Int) ^ (na - 1 + (nb - 1)) ≤ va * vb := by
        rw [Int.pow_add, ← p3, ← r3]
        have y1 : 1000000000 ^ (na - 1) * 1000000000 ^ (nb - 1) ≤ nv ga na * 1000000000 ^ (nb - 1) := Int.mul_le_mul_of_nonneg_right b1 (by have := bp_pos (nb - 1); omega)
        have y2 : nv ga na * 1000000000 ^ (nb - 1) ≤ nv ga na * nv gb nb := Int.mul_le_mul_of_nonneg_left b2 (by omega)
        omega
      have b4 : na + nb ≤ cap := by
        rcases Nat.lt_or_ge cap (na + nb) with q | q
        · have := bp_mono (m := cap - 1) (n := na - 1 + (nb - 1)) (by omega)
          omega
        · exact q
      have J2 : am_w X d 97 (46, [.ref t, .ref ta, .ref tb, .int (iI ((na + nb : Nat) : Int)), am_U, am_U, am_U, am_U, am_U, am_U, am_U], [.int (iI ((na + nb : Nat) : Int))], h) (fun r h' => r = none ∧ isW h' t l cap (va * vb) ∧ fr [t, l] h h') := by
        refine wr_istore (ls' := [_, _, _, _, _, _, _, _, _, _, _]) rfl rfl (Nat.le_of_ble_eq_true rfl) rfl ?_
        refine wr_iconst rfl rfl ?_
        refine wr_istore (ls' := [_, _, _, _, _, _, _, _, _, _, _]) rfl rfl (Nat.le_of_ble_eq_true rfl) rfl ?_
        have hw := wp_prod_fill (X := X) (d := d) (ta := ta) (tb := tb) (bo := ((na + nb : Nat) : Int)) (most := na + nb) (Q := fun r h' => r = none ∧ isW h' t l cap (va * vb) ∧ fr [t, l] h h') c_t c_l hcap.2 b4 ?_ (na + nb) 0 g0 (by omega) (fun j hj => by omega)
        · rw [am_set_id c_l] at hw
          exact hw
        · intro g hg
          refine wr_iconst rfl rfl ?_
          refine wr_istore (ls' := [_, _, _, _, _, _, _, _, _, _, _]) rfl rfl (Nat.le_of_ble_eq_true rfl) rfl ?_
          refine wp_prod_outer (most := na + nb) c_t c_l c_ta c_la c_tb c_lb hcap.2 hca hcb p1 r1 p2 r2 rfl b4 hda hdb ?_ na 0 g (by omega) (fun p hp => by rw [hg p hp]; omega) ?_ (fun p _ hp => hg p hp)
          · intro g' hg' he'
            rw [p3, r3] at he'
            have d_t : (h.set l (am_la cap g'))[t]? = some (.inr (cWh, [.ref l, .int (iI n0)])) := by rw [am_set_n hne]; exact c_t
            have d_l : (h.set l (am_la cap g'))[l]? = some (am_la cap g') := am_set_s c_l
            refine wp_prod_end (most := na + nb) (v := 0) d_t d_l hcap.2 b4 ?_ hg'
            intro n hn
            refine ⟨rfl, ?_, fr_set2⟩
            rcases hn with ⟨rfl, hn⟩ | ⟨hn, hn0⟩
            · rw [← he']
              exact isW.mk2 c_t c_l hne b4 ⟨hg', hn⟩
            · have e2 : nv g' n = va * vb := by
                rw [← he', ← hn]
                show _ = nv g' n + g' n * _
                rw [hn0]
                omega
              rw [← e2]
              refine isW.mk2 c_t c_l hne (by omega) ⟨fun j hj => hg' j (by omega), fun q q2 => ?_⟩
              have n1 := nv_nonneg (g := g') (n := n - 1) (fun j hj => hg' j (by omega))
              have e3 : nv g' n = nv g' (n - 1) + g' (n - 1) * 1000000000 ^ (n - 1) := by
                obtain ⟨w, rfl⟩ : ∃ w, n = w + 1 := ⟨n - 1, by omega⟩
                rfl
              rw [q2] at e3
              rw [show na - 1 + (nb - 1) = n - 1 by omega] at b3
              omega
          · rw [nv_zero hg]
            show _ = 0 * _
            omega
      refine wr_aload_n rfl rfl rfl ?_
      refine wr_get (ci := 5) (f := 1) rfl rfl rfl (by assumption) rfl ?_
      refine wr_aload_n rfl rfl rfl ?_
      refine wr_get (ci := 5) (f := 1) rfl rfl rfl (by assumption) rfl ?_
      refine wr_iadd rfl rfl ?_
      refine wr_goto rfl rfl ?_
      refine wr_istore_n (ls' := [_, _, _, _, _, _, _, _, _, _, _]) rfl rfl (Nat.le_of_ble_eq_true rfl) rfl ?_
      refine wr_iload_n rfl rfl rfl ?_
      refine wr_aload_n rfl rfl rfl ?_
      refine wr_get (ci := 5) (f := 0) rfl rfl rfl (by assumption) rfl ?_
      refine wr_alen rfl rfl (by assumption) (by decide) ?_
      rw [show (na : Int) + nb = ((na + nb : Nat) : Int) by omega]
      refine wr_icmp_ge rfl rfl rfl (by omega) (by omega) (fun c34 => ?_) (fun c34 => ?_)
      ·
        refine wr_aload_n rfl rfl rfl ?_
        refine wr_get (ci := 5) (f := 0) rfl rfl rfl (by assumption) rfl ?_
        refine wr_alen rfl rfl (by assumption) (by decide) ?_
        rw [show (cap : Int) = ((na + nb : Nat) : Int) by omega]
        exact J2
      ·
        refine wr_iload_n rfl rfl rfl ?_
        refine wr_goto rfl rfl ?_
        exact J2
end WHT
