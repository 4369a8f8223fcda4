/-! WHOLE NUMBERS OF THE CLASS: difference, factor, scale, beginDigits, setDigit -/
section WHS
variable {X : Nat × (Nat → Int32)}
theorem wp_diff_loop {d t l cap ta la ca tb lb cb na nb : Nat} {h0 : am_H} {n0 : Int} {g0 ga gb : Nat → Int} {Q : Option Value → am_H → Prop} (ht : h0[t]? = some (.inr (cWh, [.ref l, .int (iI n0)]))) (hl : h0[l]? = some (am_la cap g0)) (hta : h0[ta]? = some (.inr (cWh, [.ref la, .int (iI na)]))) (hla : h0[la]? = some (am_la ca ga)) (htb : h0[tb]? = some (.inr (cWh, [.ref lb, .int (iI nb)]))) (hlb : h0[lb]? = some (am_la cb gb))
    (hcap : cap ≤ 1000000) (hca : ca ≤ 1000000) (hcb : cb ≤ 1000000) (hna : na ≤ ca) (hnb : nb ≤ cb) (ka : nok ga na) (kb : nok gb nb) (hmost : na ≤ cap) (hda : l ≠ la) (hdb : l ≠ lb)
    (K : ∀ (g : Nat → Int) (u : Nat) (c : Int), (c = 0 ∨ c = 1) → nv g na - c * 1000000000 ^ na = nv ga na - nv (ext gb nb) na → (∀ j, j < na → 0 ≤ g j ∧ g j < 1000000000) → top g u na → Q none ((h0.set l (am_la cap g)).set t (.inr (cWh, [.ref l, .int (iI u)])))) :
    ∀ (m i u : Nat) (g : Nat → Int) (c : Int), i + m = na → (c = 0 ∨ c = 1) → nv g i - c * 1000000000 ^ i = nv ga i - nv (ext gb nb) i → (∀ j, j < i → 0 ≤ g j ∧ g j < 1000000000) → top g u i → am_w X d 100 (34, [.ref t, .ref ta, .ref tb, .int (iI na), .long (lI c), am_U, .int (iI u), .int (iI i), am_U, am_U], [], h0.set l (am_la cap g)) Q := by
  have hne : l ≠ t := fun e => am_oa ht hl e.symm
  have hne2 : l ≠ ta := fun e => am_oa hta hl e.symm
  have hne3 : l ≠ tb := fun e => am_oa htb hl e.symm
  intro m
  induction m with
  | zero =>
    intro i u g c hm hc he hg hu
    have c_t : (h0.set l (am_la cap g))[t]? = some (.inr (cWh, [.ref l, .int (iI n0)])) := by rw [am_set_n hne]; exact ht
    obtain rfl : i = na := by omega
    refine wr_iload rfl rfl rfl ?_
    refine wr_iload_n rfl rfl rfl ?_
    refine wr_icmp_ge rfl rfl rfl (by omega) (by omega) (fun c37 => ?_) (fun c37 => ?_)
    ·
      refine wr_aload_n rfl rfl rfl ?_
      refine wr_iload rfl rfl rfl ?_
      refine wr_putI (ci := 5) (f := 1) (fs' := [_, _]) rfl rfl rfl (by assumption) rfl rfl rfl (fun h1 e1 => ?_)
      refine wr_vret rfl rfl ?_
      rw [e1]
      exact K g u c hc he hg hu
    · exfalso; omega
  | succ m ih =>
    intro i u g c hm hc he hg hu
    have hu1 := hu.1
    have c_t : (h0.set l (am_la cap g))[t]? = some (.inr (cWh, [.ref l, .int (iI n0)])) := by rw [am_set_n hne]; exact ht
    have c_l : (h0.set l (am_la cap g))[l]? = some (am_la cap g) := am_set_s hl
    have c_ta : (h0.set l (am_la cap g))[ta]? = some (.inr (cWh, [.ref la, .int (iI na)])) := by rw [am_set_n hne2]; exact hta
    have c_la : (h0.set l (am_la cap g))[la]? = some (am_la ca ga) := by rw [am_set_n hda]; exact hla
    have c_tb : (h0.set l (am_la cap g))[tb]? = some (.inr (cWh, [.ref lb, .int (iI nb)])) := by rw [am_set_n hne3]; exact htb
    have c_lb : (h0.set l (am_la cap g))[lb]? = some (am_la cb gb) := by rw [am_set_n hdb]; exact hlb
    have xa := ka.1 i (by omega)
    have xb := ext_in kb i
    obtain ⟨s, hs⟩ : ∃ s, s = ga i - c - ext gb nb i := ⟨_, rfl⟩
    obtain ⟨c', hc'⟩ : ∃ c' : Int, c' = if s < 0 then 1 else 0 := ⟨_, rfl⟩
    have hc2 : (c' = 1 ∧ s < 0) ∨ (c' = 0 ∧ 0 ≤ s) := by
      by_cases q : s < 0
      · rw [if_pos q] at hc'; exact Or.inl ⟨hc', q⟩
      · rw [if_neg q] at hc'; exact Or.inr ⟨hc', by omega⟩
    have hx : 0 ≤ s + c' * 1000000000 ∧ s + c' * 1000000000 < 1000000000 := by omega
    obtain ⟨x, hxe⟩ : ∃ x, x = s + c' * 1000000000 := ⟨_, rfl⟩
    have J4 : ∀ u' : Nat, top (updI g i x) u' (i + 1) → am_w X d 100 (124, [.ref t, .ref ta, .ref tb, .int (iI na), .long (lI c'), am_U, .int (iI u), .int (iI i), am_U, am_U], [.int (iI u')], h0.set l (am_la cap (updI g i x))) Q := by
      intro u' hu'
      refine wr_istore (ls' := [_, _, _, _, _, _, _, _, _, _]) rfl rfl (Nat.le_of_ble_eq_true rfl) rfl ?_
      refine wr_iinc (ls' := [_, _, _, _, _, _, _, _, _, _]) rfl rfl rfl rfl ?_
      refine wr_goto rfl rfl ?_
      rw [show (i : Int) + 1 = ((i + 1 : Nat) : Int) by omega]
      refine ih (i + 1) u' (updI g i x) c' (by omega) (by omega) ?_ (dig_step hg (by omega)) hu'
      rw [nv_upd]
      show _ = nv ga i + ga i * 1000000000 ^ i - (nv (ext gb nb) i + ext gb nb i * 1000000000 ^ i)
      rw [Int.pow_succ]
      generalize (1000000000 : Int) ^ i = p at he ⊢
      generalize nv ga i = A at he ⊢
      generalize nv (ext gb nb) i = B at he ⊢
      generalize nv g i = G at he ⊢
      subst hxe hs
      grind
    have J3 : am_w X d 100 (85, [.ref t, .ref ta, .ref tb, .int (iI na), .long (lI c), am_U, .int (iI u), .int (iI i), .long (lI s), am_U], [.long (lI c')], h0.set l (am_la cap g)) Q := by
      refine wr_lstore (ls' := [_, _, _, _, _, _, _, _, _, _]) rfl rfl (Nat.le_of_ble_eq_true rfl) rfl ?_
      refine wr_aload_n rfl rfl rfl ?_
      refine wr_get (ci := 5) (f := 0) rfl rfl rfl (by assumption) rfl ?_
      refine wr_iload rfl rfl rfl ?_
      refine wr_lload rfl rfl rfl ?_
      refine wr_lload rfl rfl rfl ?_
      refine wr_ldc2 (z := 1000000000) rfl rfl rfl (by decide) ?_
      refine wr_lmul rfl rfl ?_
      refine wr_ladd rfl rfl ?_
      refine wr_last rfl rfl (by assumption) (by omega) (by omega) (fun h1 e1 => ?_)
      rw [List.set_set, Int.toNat_natCast, ← hxe] at e1
      have d_t : h1[t]? = some (.inr (cWh, [.ref l, .int (iI n0)])) := by rw [e1, am_set_n hne]; exact ht
      have d_l : h1[l]? = some (am_la cap (updI g i x)) := by rw [e1]; exact am_set_s hl
      refine wr_aload_n rfl rfl rfl ?_
      refine wr_get (ci := 5) (f := 0) rfl rfl rfl (by assumption) rfl ?_
      refine wr_iload rfl rfl rfl ?_
      refine wr_lald rfl rfl (by assumption) (by omega) (by omega) ?_
      refine wr_lconst (z := 0) rfl rfl rfl ?_
      rw [Int.toNat_natCast, updI_s]
      refine wr_l_eq rfl rfl rfl rfl rfl (by omega) (by omega) (fun c111 => ?_) (fun c111 => ?_)
      ·
        refine wr_iload rfl rfl rfl ?_
        refine am_w.wk (ls' := [_, _, _, _, _, _, _, _, am_U, _]) ⟨Or.inr rfl, Or.inr rfl, Or.inr rfl, Or.inr rfl, Or.inr rfl, Or.inr rfl, Or.inr rfl, Or.inr rfl, Or.inl rfl, Or.inr rfl, trivial⟩ ?_
        rw [e1]
        exact J4 u ((top_step hu).1 c111)
      ·
        refine wr_iload rfl rfl rfl ?_
        refine wr_iconst rfl rfl ?_
        refine wr_iadd rfl rfl ?_
        refine wr_goto rfl rfl ?_
        refine am_w.wk (ls' := [_, _, _, _, _, _, _, _, am_U, _]) ⟨Or.inr rfl, Or.inr rfl, Or.inr rfl, Or.inr rfl, Or.inr rfl, Or.inr rfl, Or.inr rfl, Or.inr rfl, Or.inl rfl, Or.inr rfl, trivial⟩ ?_
        rw [e1, show (i : Int) + 1 = ((i + 1 : Nat) : Int) by omega]
        exact J4 (i + 1) ((top_step hu).2 c111)
    have J2 : am_w X d 100 (70, [.ref t, .ref ta, .ref tb, .int (iI na), .long (lI c), am_U, .int (iI u), .int (iI i), am_U, am_U], [.long (lI (ext gb nb i)), .long (lI (ga i - c))], h0.set l (am_la cap g)) Q := by
      refine wr_lsub rfl rfl ?_
      refine wr_lstore (ls' := [_, _, _, _, _, _, _, _, _, _]) rfl rfl (Nat.le_of_ble_eq_true rfl) rfl ?_
      refine wr_lload rfl rfl rfl ?_
      refine wr_lconst (z := 0) rfl rfl rfl ?_
      rw [← hs]
      refine wr_l_ge rfl rfl rfl rfl rfl (by omega) (by omega) (fun c76 => ?_) (fun c76 => ?_)
      ·
        refine wr_lconst (z := 0) rfl rfl rfl ?_
        rw [show (0 : Int) = c' by omega]
        exact J3
      ·
        refine wr_lconst (z := 1) rfl rfl rfl ?_
        refine wr_goto rfl rfl ?_
        rw [show (1 : Int) = c' by omega]
        exact J3
    refine wr_iload rfl rfl rfl ?_
    refine wr_iload_n rfl rfl rfl ?_
    refine wr_icmp_ge rfl rfl rfl (by omega) (by omega) (fun c37 => ?_) (fun c37 => ?_)
    · exfalso; omega
    ·
      refine wr_aload_n rfl rfl rfl ?_
      refine wr_get (ci := 5) (f := 0) rfl rfl rfl (by assumption) rfl ?_
      refine wr_iload rfl rfl rfl ?_
      refine wr_lald rfl rfl (by assumption) (by omega) (by omega) ?_
      refine wr_lload rfl rfl rfl ?_
      refine wr_lsub rfl rfl ?_
      refine wr_iload rfl rfl rfl ?_
      refine wr_aload_n rfl rfl rfl ?_
      refine wr_get (ci := 5) (f := 1) rfl rfl rfl (by assumption) rfl ?_
      rw [Int.toNat_natCast]
      refine wr_icmp_ge rfl rfl rfl (by omega) (by omega) (fun c56 => ?_) (fun c56 => ?_)
      ·
        refine wr_lconst (z := 0) rfl rfl rfl ?_
        rw [show (0 : Int) = ext gb nb i from (ext_ge (by omega)).symm]
        exact J2
      ·
        refine wr_aload_n rfl rfl rfl ?_
        refine wr_get (ci := 5) (f := 0) rfl rfl rfl (by assumption) rfl ?_
        refine wr_iload rfl rfl rfl ?_
        refine wr_lald rfl rfl (by assumption) (by omega) (by omega) ?_
        refine wr_goto rfl rfl ?_
        rw [Int.toNat_natCast, ← ext_lt (g := gb) (n := nb) (j := i) (by omega)]
        exact J2
theorem wp_diff {d t l cap ta la ca tb lb cb : Nat} {h : am_H} {v0 va vb : Int} (ht : isW h t l cap v0) (ha : isW h ta la ca va) (hb : isW h tb lb cb vb) (hcap : cap ≤ 1000000) (hca : ca ≤ 1000000) (hcb : cb ≤ 1000000) (hda : l ≠ la) (hdb : l ≠ lb) (hfit : va < 1000000000 ^ cap) (hle : vb ≤ va) :
    am_c X (d + 1) 100 [.ref t, .ref ta, .ref tb] h (fun r h' => r = none ∧ isW h' t l cap (va - vb) ∧ fr [t, l] h h') := by
  obtain ⟨g0, n0, c_t, c_l, q1, q2, q3⟩ := ht
  obtain ⟨ga, na, c_ta, c_la, p1, p2, p3⟩ := ha
  obtain ⟨gb, nb, c_tb, c_lb, r1, r2, r3⟩ := hb
  have hna : na ≤ cap := nv_fit p2 (by omega)
  have hnb : nb ≤ na := by
    rcases Nat.lt_or_ge na nb with q | q
    · have := nv_short r2 p2 q
      omega
    · exact q
  have hne : l ≠ t := fun e => am_oa c_t c_l e.symm
  have J1 : am_w X d 100 (24, [.ref t, .ref ta, .ref tb, am_U, am_U, am_U, am_U, am_U, am_U, am_U], [.int (iI na)], h) (fun r h' => r = none ∧ isW h' t l cap (va - vb) ∧ fr [t, l] h h') := by
    refine wr_istore_n (ls' := [_, _, _, _, _, _, _, _, _, _]) rfl rfl (Nat.le_of_ble_eq_true rfl) rfl ?_
    refine wr_lconst (z := 0) rfl rfl rfl ?_
    refine wr_lstore (ls' := [_, _, _, _, _, _, _, _, _, _]) rfl rfl (Nat.le_of_ble_eq_true rfl) rfl ?_
    refine wr_iconst rfl rfl ?_
    refine wr_istore (ls' := [_, _, _, _, _, _, _, _, _, _]) rfl rfl (Nat.le_of_ble_eq_true rfl) rfl ?_
    refine wr_iconst rfl rfl ?_
    refine wr_istore (ls' := [_, _, _, _, _, _, _, _, _, _]) rfl rfl (Nat.le_of_ble_eq_true rfl) rfl ?_
    have hw := wp_diff_loop (X := X) (d := d) (Q := fun r h' => r = none ∧ isW h' t l cap (va - vb) ∧ fr [t, l] h h') c_t c_l c_ta c_la c_tb c_lb hcap hca hcb p1 r1 p2 r2 hna hda hdb ?_ na 0 0 g0 0 (by omega) (Or.inl rfl) rfl (fun j hj => by omega) ⟨Nat.le_refl _, fun j a b => by omega, fun q => by omega⟩
    · rw [am_set_id c_l] at hw
      exact hw
    · intro g u c hc he hg hu
      rw [nv_ext hnb, p3, r3] at he
      have n1 := nv_nonneg hg
      have hc0 : c = 0 := by
        rcases hc with q | q
        · exact q
        · subst q; omega
      subst hc0
      have e2 : nv g u = va - vb := by rw [← top_nv hu]; omega
      have hu1 := hu.1
      refine ⟨rfl, ?_, fr_set2⟩
      rw [← e2]
      exact isW.mk2 c_t c_l hne (by omega) ⟨fun j hj => hg j (by omega), hu.2.2⟩
  refine am_c.of (Nat.le_of_ble_eq_true rfl) ?_
  show am_w _ _ _ (_, [_, _, _, _, _, _, _, _, _, _], _, _) _
  refine wr_aload_n rfl rfl rfl ?_
  refine wr_get (ci := 5) (f := 1) rfl rfl rfl (by assumption) rfl ?_
  refine wr_aload_n rfl rfl rfl ?_
  refine wr_get (ci := 5) (f := 0) rfl rfl rfl (by assumption) rfl ?_
  refine wr_alen rfl rfl (by assumption) (by decide) ?_
  refine wr_icmp_ge rfl rfl rfl (by omega) (by omega) (fun c9 => ?_) (fun c9 => ?_)
  ·
    refine wr_aload_n rfl rfl rfl ?_
    refine wr_get (ci := 5) (f := 0) rfl rfl rfl (by assumption) rfl ?_
    refine wr_alen rfl rfl (by assumption) (by decide) ?_
    rw [show (cap : Int) = na by omega]
    exact J1
  ·
    refine wr_aload_n rfl rfl rfl ?_
    refine wr_get (ci := 5) (f := 1) rfl rfl rfl (by assumption) rfl ?_
    refine wr_goto rfl rfl ?_
    exact J1
/-- the factor of a divisor -/
def wFac (g : Nat → Int) (n : Nat) : Int := if n = 0 then 1 else 1000000000 / (g (n - 1) + 1)
theorem wFac_in {g : Nat → Int} {n : Nat} (h : nok g n) : 1 ≤ wFac g n ∧ wFac g n ≤ 500000000 := by
  unfold wFac
  by_cases e : n = 0
  · rw [if_pos e]; omega
  · rw [if_neg e]
    have h1 := h.1 (n - 1) (by omega)
    have h2 := h.2 (by omega)
    constructor
    · exact (Int.le_ediv_iff_mul_le (by omega)).mpr (by omega)
    · have h3 : 1000000000 / (g (n - 1) + 1) ≤ 1000000000 / 2 := by
        apply Int.ediv_le_of_le_mul (by omega)
        have h4 : 500000000 * 2 ≤ 500000000 * (g (n - 1) + 1) := Int.mul_le_mul_of_nonneg_left (by omega) (by omega)
        omega
      omega
theorem wp_factor {d t l cap n : Nat} {h : am_H} {g : Nat → Int} (c_t : h[t]? = some (.inr (cWh, [.ref l, .int (iI n)]))) (c_l : h[l]? = some (am_la cap g)) (hcap : cap ≤ 1000000) (hn : n ≤ cap) (hk : nok g n) :
    am_c X (d + 1) 90 [.ref t] h (fun r h' => r = some (.long (lI (wFac g n))) ∧ h' = h) := by
  refine am_c.of (Nat.le_of_ble_eq_true rfl) ?_
  show am_w _ _ _ (_, [_], _, _) _
  refine wr_aload_n rfl rfl rfl ?_
  refine wr_get (ci := 5) (f := 1) rfl rfl rfl (by assumption) rfl ?_
  refine wr_if_le rfl rfl rfl (by omega) (fun c4 => ?_) (fun c4 => ?_)
  ·
    refine wr_lconst (z := 1) rfl rfl rfl ?_
    refine wr_lret rfl rfl ?_
    have e0 : n = 0 := by omega
    unfold wFac
    rw [if_pos e0]
    exact ⟨rfl, rfl⟩
  ·
    have h1 := hk.1 (n - 1) (by omega)
    refine wr_ldc2 (z := 1000000000) rfl rfl rfl (by decide) ?_
    refine wr_aload_n rfl rfl rfl ?_
    refine wr_get (ci := 5) (f := 0) rfl rfl rfl (by assumption) rfl ?_
    refine wr_aload_n rfl rfl rfl ?_
    refine wr_get (ci := 5) (f := 1) rfl rfl rfl (by assumption) rfl ?_
    refine wr_iconst rfl rfl ?_
    refine wr_isub rfl rfl ?_
    rw [show (n : Int) - 1 = ((n - 1 : Nat) : Int) by omega]
    refine wr_lald rfl rfl (by assumption) (by omega) (by omega) ?_
    rw [Int.toNat_natCast]
    refine wr_lconst (z := 1) rfl rfl rfl ?_
    refine wr_ladd rfl rfl ?_
    refine wr_ldivN rfl rfl (by omega) (by omega) (by omega) (by omega) ?_
    refine wr_goto rfl rfl ?_
    refine wr_lret rfl rfl ?_
    unfold wFac
    rw [if_neg (by omega)]
    exact ⟨rfl, rfl⟩
theorem wp_scale_loop {d t l cap ta la ca na most : Nat} {h0 : am_H} {n0 f : Int} {g0 ga : Nat → Int} {Q : Option Value → am_H → Prop} (ht : h0[t]? = some (.inr (cWh, [.ref l, .int (iI n0)]))) (hl : h0[l]? = some (am_la cap g0)) (hta : h0[ta]? = some (.inr (cWh, [.ref la, .int (iI na)]))) (hla : h0[la]? = some (am_la ca ga))
    (hcap : cap ≤ 1000000) (hca : ca ≤ 1000000) (hna : na ≤ ca) (ka : nok ga na) (hf : 1 ≤ f ∧ f ≤ 500000000) (hmost : most ≤ cap) (hda : l ≠ la)
    (K : ∀ (g : Nat → Int) (u : Nat) (c : Int), 0 ≤ c → c < f → nv g most + c * 1000000000 ^ most = f * nv (ext ga na) most → (∀ j, j < most → 0 ≤ g j ∧ g j < 1000000000) → top g u most → Q none ((h0.set l (am_la cap g)).set t (.inr (cWh, [.ref l, .int (iI u)])))) :
    ∀ (m i u : Nat) (g : Nat → Int) (c : Int), i + m = most → 0 ≤ c → c < f → nv g i + c * 1000000000 ^ i = f * nv (ext ga na) i → (∀ j, j < i → 0 ≤ g j ∧ g j < 1000000000) → top g u i → am_w X d 91 (37, [.ref t, .ref ta, .long (lI f), am_U, .int (iI most), .long (lI c), am_U, .int (iI u), .int (iI i), am_U, am_U], [], h0.set l (am_la cap g)) Q := by
  have hne : l ≠ t := fun e => am_oa ht hl e.symm
  have hne2 : l ≠ ta := fun e => am_oa hta hl e.symm
  intro m
  induction m with
  | zero =>
    intro i u g c hm hc hcf he hg hu
    have c_t : (h0.set l (am_la cap g))[t]? = some (.inr (cWh, [.ref l, .int (iI n0)])) := by rw [am_set_n hne]; exact ht
    obtain rfl : i = most := by omega
    refine wr_iload rfl rfl rfl ?_
    refine wr_iload rfl rfl rfl ?_
    refine wr_icmp_ge rfl rfl rfl (by omega) (by omega) (fun c41 => ?_) (fun c41 => ?_)
    ·
      refine wr_aload_n rfl rfl rfl ?_
      refine wr_iload rfl rfl rfl ?_
      refine wr_putI (ci := 5) (f := 1) (fs' := [_, _]) rfl rfl rfl (by assumption) rfl rfl rfl (fun h1 e1 => ?_)
      refine wr_vret rfl rfl ?_
      rw [e1]
      exact K g u c hc hcf he hg hu
    · exfalso; omega
  | succ m ih =>
    intro i u g c hm hc hcf he hg hu
    have hu1 := hu.1
    have c_t : (h0.set l (am_la cap g))[t]? = some (.inr (cWh, [.ref l, .int (iI n0)])) := by rw [am_set_n hne]; exact ht
    have c_l : (h0.set l (am_la cap g))[l]? = some (am_la cap g) := am_set_s hl
    have c_ta : (h0.set l (am_la cap g))[ta]? = some (.inr (cWh, [.ref la, .int (iI na)])) := by rw [am_set_n hne2]; exact hta
    have c_la : (h0.set l (am_la cap g))[la]? = some (am_la ca ga) := by rw [am_set_n hda]; exact hla
    have xa := ext_in ka i
    have xm : 0 ≤ ext ga na i * f ∧ ext ga na i * f ≤ 999999999 * f := ⟨Int.mul_nonneg (by omega) (by omega), Int.mul_le_mul_of_nonneg_right (by omega) (by omega)⟩
    obtain ⟨s, hs⟩ : ∃ s, s = c + ext ga na i * f := ⟨_, rfl⟩
    obtain ⟨c', hc'⟩ : ∃ c', c' = s / 1000000000 := ⟨_, rfl⟩
    obtain ⟨x, hxe⟩ : ∃ x, x = s - c' * 1000000000 := ⟨_, rfl⟩
    have hx : 0 ≤ x ∧ x < 1000000000 ∧ 0 ≤ c' ∧ c' < f := by omega
    have J4 : ∀ u' : Nat, top (updI g i x) u' (i + 1) → am_w X d 91 (116, [.ref t, .ref ta, .long (lI f), am_U, .int (iI most), .long (lI c'), am_U, .int (iI u), .int (iI i), am_U, am_U], [.int (iI u')], h0.set l (am_la cap (updI g i x))) Q := by
      intro u' hu'
      refine wr_istore (ls' := [_, _, _, _, _, _, _, _, _, _, _]) rfl rfl (Nat.le_of_ble_eq_true rfl) rfl ?_
      refine wr_iinc (ls' := [_, _, _, _, _, _, _, _, _, _, _]) rfl rfl rfl rfl ?_
      refine wr_goto rfl rfl ?_
      rw [show (i : Int) + 1 = ((i + 1 : Nat) : Int) by omega]
      refine ih (i + 1) u' (updI g i x) c' (by omega) (by omega) (by omega) ?_ (dig_step hg (by omega)) hu'
      rw [nv_upd]
      show _ = f * (nv (ext ga na) i + ext ga na i * 1000000000 ^ i)
      rw [Int.pow_succ]
      generalize (1000000000 : Int) ^ i = p at he ⊢
      generalize nv (ext ga na) i = A at he ⊢
      generalize nv g i = G at he ⊢
      clear hc'
      subst hxe hs
      grind
    have J2 : am_w X d 91 (68, [.ref t, .ref ta, .long (lI f), am_U, .int (iI most), .long (lI c), am_U, .int (iI u), .int (iI i), am_U, am_U], [.long (lI (ext ga na i * f)), .long (lI c)], h0.set l (am_la cap g)) Q := by
      refine wr_ladd rfl rfl ?_
      refine wr_lstore (ls' := [_, _, _, _, _, _, _, _, _, _, _]) rfl rfl (Nat.le_of_ble_eq_true rfl) rfl ?_
      rw [← hs]
      refine wr_lload rfl rfl rfl ?_
      refine wr_ldc2 (z := 1000000000) rfl rfl rfl (by decide) ?_
      refine wr_ldivN rfl rfl (by omega) (by omega) (by omega) (by omega) ?_
      rw [← hc']
      refine wr_lstore (ls' := [_, _, _, _, _, _, _, _, _, _, _]) rfl rfl (Nat.le_of_ble_eq_true rfl) rfl ?_
      refine wr_aload_n rfl rfl rfl ?_
      refine wr_get (ci := 5) (f := 0) rfl rfl rfl (by assumption) rfl ?_
      refine wr_iload rfl rfl rfl ?_
      refine wr_lload rfl rfl rfl ?_
      refine wr_lload rfl rfl rfl ?_
      refine wr_ldc2 (z := 1000000000) rfl rfl rfl (by decide) ?_
      refine wr_lmul rfl rfl ?_
      refine wr_lsub rfl rfl ?_
      refine wr_last rfl rfl (by assumption) (by omega) (by omega) (fun h1 e1 => ?_)
      rw [List.set_set, Int.toNat_natCast, ← hxe] at e1
      have d_t : h1[t]? = some (.inr (cWh, [.ref l, .int (iI n0)])) := by rw [e1, am_set_n hne]; exact ht
      have d_l : h1[l]? = some (am_la cap (updI g i x)) := by rw [e1]; exact am_set_s hl
      refine wr_aload_n rfl rfl rfl ?_
      refine wr_get (ci := 5) (f := 0) rfl rfl rfl (by assumption) rfl ?_
      refine wr_iload rfl rfl rfl ?_
      refine wr_lald rfl rfl (by assumption) (by omega) (by omega) ?_
      refine wr_lconst (z := 0) rfl rfl rfl ?_
      rw [Int.toNat_natCast, updI_s]
      refine wr_l_eq rfl rfl rfl rfl rfl (by omega) (by omega) (fun c103 => ?_) (fun c103 => ?_)
      ·
        refine wr_iload rfl rfl rfl ?_
        refine am_w.wk (ls' := [_, _, _, _, _, _, _, _, _, am_U, _]) ⟨Or.inr rfl, Or.inr rfl, Or.inr rfl, Or.inr rfl, Or.inr rfl, Or.inr rfl, Or.inr rfl, Or.inr rfl, Or.inr rfl, Or.inl rfl, Or.inr rfl, trivial⟩ ?_
        rw [e1]
        exact J4 u ((top_step hu).1 c103)
      ·
        refine wr_iload rfl rfl rfl ?_
        refine wr_iconst rfl rfl ?_
        refine wr_iadd rfl rfl ?_
        refine wr_goto rfl rfl ?_
        refine am_w.wk (ls' := [_, _, _, _, _, _, _, _, _, am_U, _]) ⟨Or.inr rfl, Or.inr rfl, Or.inr rfl, Or.inr rfl, Or.inr rfl, Or.inr rfl, Or.inr rfl, Or.inr rfl, Or.inr rfl, Or.inl rfl, Or.inr rfl, trivial⟩ ?_
        rw [e1, show (i : Int) + 1 = ((i + 1 : Nat) : Int) by omega]
        exact J4 (i + 1) ((top_step hu).2 c103)
    refine wr_iload rfl rfl rfl ?_
    refine wr_iload rfl rfl rfl ?_
    refine wr_icmp_ge rfl rfl rfl (by omega) (by omega) (fun c41 => ?_) (fun c41 => ?_)
    · exfalso; omega
    ·
      refine wr_lload rfl rfl rfl ?_
      refine wr_iload rfl rfl rfl ?_
      refine wr_aload_n rfl rfl rfl ?_
      refine wr_get (ci := 5) (f := 1) rfl rfl rfl (by assumption) rfl ?_
      refine wr_icmp_ge rfl rfl rfl (by omega) (by omega) (fun c52 => ?_) (fun c52 => ?_)
      ·
        refine wr_lconst (z := 0) rfl rfl rfl ?_
        rw [show (0 : Int) = ext ga na i * f by rw [ext_ge (by omega)]; omega]
        exact J2
      ·
        refine wr_aload_n rfl rfl rfl ?_
        refine wr_get (ci := 5) (f := 0) rfl rfl rfl (by assumption) rfl ?_
        refine wr_iload rfl rfl rfl ?_
        refine wr_lald rfl rfl (by assumption) (by omega) (by omega) ?_
        refine wr_lload_n rfl rfl rfl ?_
        refine wr_lmul rfl rfl ?_
        refine wr_goto rfl rfl ?_
        rw [Int.toNat_natCast, ← ext_lt (g := ga) (n := na) (j := i) (by omega)]
        exact J2
theorem wp_scale {d t l cap ta la ca : Nat} {h : am_H} {v0 va f : Int} (ht : isW h t l cap v0) (ha : isW h ta la ca va) (hcap : 0 < cap ∧ cap ≤ 1000000) (hca : ca ≤ 1000000) (hda : l ≠ la) (hf : 1 ≤ f ∧ f ≤ 500000000) (hfit : f * va < 1000000000 ^ cap) :
    am_c X (d + 1) 91 [.ref t, .ref ta, .long (lI f)] h (fun r h' => r = none ∧ isW h' t l cap (f * va) ∧ fr [t, l] h h') := by
  obtain ⟨g0, n0, c_t, c_l, q1, q2, q3⟩ := ht
  obtain ⟨ga, na, c_ta, c_la, p1, p2, p3⟩ := ha
  have s1 := nv_nonneg p2.1
  have s3 : 1 * va ≤ f * va := Int.mul_le_mul_of_nonneg_right (by omega) (by omega)
  have hna : na ≤ cap := nv_fit p2 (by omega)
  have hne : l ≠ t := fun e => am_oa c_t c_l e.symm
  have J1 : ∀ most : Nat, most ≤ cap → na ≤ most → (na < most ∨ most = cap) → am_w X d 91 (26, [.ref t, .ref ta, .long (lI f), am_U, am_U, am_U, am_U, am_U, am_U, am_U, am_U], [.int (iI most)], h) (fun r h' => r = none ∧ isW h' t l cap (f * va) ∧ fr [t, l] h h') := by
    intro most h3 h4 h5
    refine wr_istore (ls' := [_, _, _, _, _, _, _, _, _, _, _]) rfl rfl (Nat.le_of_ble_eq_true rfl) rfl ?_
    refine wr_lconst (z := 0) rfl rfl rfl ?_
    refine wr_lstore (ls' := [_, _, _, _, _, _, _, _, _, _, _]) rfl rfl (Nat.le_of_ble_eq_true rfl) rfl ?_
    refine wr_iconst rfl rfl ?_
    refine wr_istore (ls' := [_, _, _, _, _, _, _, _, _, _, _]) rfl rfl (Nat.le_of_ble_eq_true rfl) rfl ?_
    refine wr_iconst rfl rfl ?_
    refine wr_istore (ls' := [_, _, _, _, _, _, _, _, _, _, _]) rfl rfl (Nat.le_of_ble_eq_true rfl) rfl ?_
    have hw := wp_scale_loop (X := X) (d := d) (most := most) (Q := fun r h' => r = none ∧ isW h' t l cap (f * va) ∧ fr [t, l] h h') c_t c_l c_ta c_la hcap.2 hca p1 p2 hf h3 hda ?_ most 0 0 g0 0 (by omega) (by omega) (by omega) (by show (0 : Int) + 0 * _ = f * 0; omega) (fun j hj => by omega) ⟨Nat.le_refl _, fun j a b => by omega, fun q => by omega⟩
    · rw [am_set_id c_l] at hw
      exact hw
    · intro g u c hc hcf he hg hu
      rw [nv_ext h4, p3] at he
      have n1 := nv_nonneg hg
      have hlt : f * va < 1000000000 ^ most := by
        rcases h5 with q | q
        · have a3 := bp_mono (m := na + 1) (n := most) (by omega)
          rw [Int.pow_succ] at a3
          have a4 := bp_pos na
          have a5 : f * va ≤ 500000000 * va := Int.mul_le_mul_of_nonneg_right (by omega) (by omega)
          omega
        · rw [q]; exact hfit
      have hc0 : c = 0 := by
        rcases Int.lt_or_le 0 c with q | q
        · have : 1 * 1000000000 ^ most ≤ c * 1000000000 ^ most := Int.mul_le_mul_of_nonneg_right (by omega) (by have := bp_pos most; omega)
          omega
        · omega
      subst hc0
      have e2 : nv g u = f * va := by rw [← top_nv hu]; omega
      have hu1 := hu.1
      refine ⟨rfl, ?_, fr_set2⟩
      rw [← e2]
      exact isW.mk2 c_t c_l hne (by omega) ⟨fun j hj => hg j (by omega), hu.2.2⟩
  refine am_c.of (Nat.le_of_ble_eq_true rfl) ?_
  show am_w _ _ _ (_, [_, _, _, _, _, _, _, _, _, _, _], _, _) _
  refine wr_aload_n rfl rfl rfl ?_
  refine wr_get (ci := 5) (f := 1) rfl rfl rfl (by assumption) rfl ?_
  refine wr_aload_n rfl rfl rfl ?_
  refine wr_get (ci := 5) (f := 0) rfl rfl rfl (by assumption) rfl ?_
  refine wr_alen rfl rfl (by assumption) (by decide) ?_
  refine wr_icmp_ge rfl rfl rfl (by omega) (by omega) (fun c9 => ?_) (fun c9 => ?_)
  ·
    refine wr_aload_n rfl rfl rfl ?_
    refine wr_get (ci := 5) (f := 0) rfl rfl rfl (by assumption) rfl ?_
    refine wr_alen rfl rfl (by assumption) (by decide) ?_
    exact J1 cap (by omega) (by omega) (by omega)
  ·
    refine wr_aload_n rfl rfl rfl ?_
    refine wr_get (ci := 5) (f := 1) rfl rfl rfl (by assumption) rfl ?_
    refine wr_iconst rfl rfl ?_
    refine wr_iadd rfl rfl ?_
    refine wr_goto rfl rfl ?_
    rw [show (na : Int) + 1 = ((na + 1 : Nat) : Int) by omega]
    exact J1 (na + 1) (by omega) (by omega) (by omega)
end WHS
