/-! WHOLE NUMBERS OF THE CLASS: sum, difference -/
/-- limbs, and zeros behind them -/
def ext (g : Nat → Int) (n : Nat) : Nat → Int := fun j => if j < n then g j else 0
theorem ext_lt {g : Nat → Int} {n j : Nat} (h : j < n) : ext g n j = g j := by simp [ext, h]
theorem ext_ge {g : Nat → Int} {n j : Nat} (h : n ≤ j) : ext g n j = 0 := by simp [ext]; omega
theorem ext_in {g : Nat → Int} {n : Nat} (h : nok g n) (j : Nat) : 0 ≤ ext g n j ∧ ext g n j < 1000000000 := by
  rcases Nat.lt_or_ge j n with q | q
  · rw [ext_lt q]; exact h.1 j q
  · rw [ext_ge q]; omega
theorem nv_ext {g : Nat → Int} {n : Nat} : ∀ {i : Nat}, n ≤ i → nv (ext g n) i = nv g n := by
  intro i
  induction i with
  | zero =>
    intro h
    obtain rfl : n = 0 := by omega
    rfl
  | succ i ih =>
    intro h
    by_cases e : n = i + 1
    · subst e
      exact nv_congr (fun j hj => ext_lt hj)
    · show nv (ext g n) i + ext g n i * _ = _
      rw [ih (by omega), ext_ge (by omega)]
      omega
/-- the highest limb that is not 0, so far -/
def top (g : Nat → Int) (u i : Nat) : Prop := u ≤ i ∧ (∀ j, u ≤ j → j < i → g j = 0) ∧ (0 < u → g (u - 1) ≠ 0)
theorem top_nv {g : Nat → Int} {u i : Nat} (h : top g u i) : nv g i = nv g u := by
  have h1 := nv_split (g := g) (g' := ext g u) (i := u) (n := i) h.1 (fun j a b => by rw [h.2.1 j a b, ext_ge a])
  rw [nv_ext h.1, nv_ext (Nat.le_refl u)] at h1
  omega
theorem top_step {g : Nat → Int} {u i : Nat} {x : Int} (h : top g u i) : (x = 0 → top (updI g i x) u (i + 1)) ∧ (x ≠ 0 → top (updI g i x) (i + 1) (i + 1)) := by
  obtain ⟨h1, h2, h3⟩ := h
  refine ⟨fun hx => ⟨by omega, fun j a b => ?_, fun hu => ?_⟩, fun hx => ⟨by omega, fun j a b => by omega, fun _ => ?_⟩⟩
  · by_cases e : j = i
    · subst e; rw [updI_s]; exact hx
    · rw [updI_n e]; exact h2 j a (by omega)
  · rw [updI_n (by omega)]; exact h3 hu
  · rw [show i + 1 - 1 = i by omega, updI_s]; exact hx
theorem dig_step {g : Nat → Int} {i : Nat} {x : Int} (h : ∀ j, j < i → 0 ≤ g j ∧ g j < 1000000000) (hx : 0 ≤ x ∧ x < 1000000000) : ∀ j, j < i + 1 → 0 ≤ updI g i x j ∧ updI g i x j < 1000000000 := by
  intro j hj
  by_cases e : j = i
  · subst e; rw [updI_s]; exact hx
  · rw [updI_n e]; exact h j (by omega)
section WHR
variable {X : Nat × (Nat → Int32)}
theorem wp_sum_loop {d t l cap ta la ca tb lb cb na nb most : Nat} {h0 : am_H} {n0 lon : Int} {g0 ga gb : Nat → Int} {Q : Option Value → am_H → Prop} (ht : h0[t]? = some (.inr (cWh, [.ref l, .int (iI n0)]))) (hl : h0[l]? = some (am_la cap g0)) (hta : h0[ta]? = some (.inr (cWh, [.ref la, .int (iI na)]))) (hla : h0[la]? = some (am_la ca ga)) (htb : h0[tb]? = some (.inr (cWh, [.ref lb, .int (iI nb)]))) (hlb : h0[lb]? = some (am_la cb gb))
    (hcap : cap ≤ 1000000) (hca : ca ≤ 1000000) (hcb : cb ≤ 1000000) (hna : na ≤ ca) (hnb : nb ≤ cb) (ka : nok ga na) (kb : nok gb nb) (hmost : most ≤ cap) (hdb : l ≠ lb)
    (K : ∀ (g : Nat → Int) (u : Nat) (c : Int), (c = 0 ∨ c = 1) → nv g most + c * 1000000000 ^ most = nv (ext ga na) most + nv (ext gb nb) most → (∀ j, j < most → 0 ≤ g j ∧ g j < 1000000000) → top g u most → Q none ((h0.set l (am_la cap g)).set t (.inr (cWh, [.ref l, .int (iI u)])))) :
    ∀ (m i u : Nat) (g : Nat → Int) (c : Int), i + m = most → (c = 0 ∨ c = 1) → nv g i + c * 1000000000 ^ i = nv (ext ga na) i + nv (ext gb nb) i → (∀ j, j < i → 0 ≤ g j ∧ g j < 1000000000) → (∀ j, i ≤ j → g j = g0 j) → top g u i → am_w X d 99 (54, [.ref t, .ref ta, .ref tb, .int (iI lon), .int (iI most), .long (lI c), am_U, .int (iI u), .int (iI i), am_U, am_U], [], h0.set l (am_la cap g)) Q := by
  have hne : l ≠ t := fun e => am_oa ht hl e.symm
  have hne2 : l ≠ ta := fun e => am_oa hta hl e.symm
  have hne3 : l ≠ tb := fun e => am_oa htb hl e.symm
  intro m
  induction m with
  | zero =>
    intro i u g c hm hc he hg hk hu
    have c_t : (h0.set l (am_la cap g))[t]? = some (.inr (cWh, [.ref l, .int (iI n0)])) := by rw [am_set_n hne]; exact ht
    obtain rfl : i = most := by omega
    refine wr_iload rfl rfl rfl ?_
    refine wr_iload rfl rfl rfl ?_
    refine wr_icmp_ge rfl rfl rfl (by omega) (by omega) (fun c58 => ?_) (fun c58 => ?_)
    ·
      refine wr_aload_n rfl rfl rfl ?_
      refine wr_iload rfl rfl rfl ?_
      refine wr_putI (ci := 5) (f := 1) (fs' := [_, _]) rfl rfl rfl (by assumption) rfl rfl rfl (fun h1 e1 => ?_)
      refine wr_vret rfl rfl ?_
      rw [e1]
      exact K g u c hc he hg hu
    · exfalso; omega
  | succ m ih =>
    intro i u g c hm hc he hg hk hu
    have hu1 := hu.1
    have c_t : (h0.set l (am_la cap g))[t]? = some (.inr (cWh, [.ref l, .int (iI n0)])) := by rw [am_set_n hne]; exact ht
    have c_l : (h0.set l (am_la cap g))[l]? = some (am_la cap g) := am_set_s hl
    have c_ta : (h0.set l (am_la cap g))[ta]? = some (.inr (cWh, [.ref la, .int (iI na)])) := by rw [am_set_n hne2]; exact hta
    have c_tb : (h0.set l (am_la cap g))[tb]? = some (.inr (cWh, [.ref lb, .int (iI nb)])) := by rw [am_set_n hne3]; exact htb
    have c_lb : (h0.set l (am_la cap g))[lb]? = some (am_la cb gb) := by rw [am_set_n hdb]; exact hlb
    obtain ⟨fa, c_la, hfa⟩ : ∃ fa, (h0.set l (am_la cap g))[la]? = some (am_la ca fa) ∧ fa i = ga i := by
      by_cases e : l = la
      · subst e
        rw [hl] at hla
        have e1 : cap = ca ∧ (fun j => lI (g0 j)) = fun j => lI (ga j) := by
          simpa using hla
        refine ⟨fun j => if j = i then ga i else g j, ?_, by simp⟩
        rw [c_l, ← e1.1]
        have e2 : (fun j => lI (g j)) = fun j => lI ((fun j => if j = i then ga i else g j) j) := by
          funext j
          by_cases q : j = i
          · subst q
            have := congrFun e1.2 j
            simp only [if_true]
            rw [hk j (Nat.le_refl _)]
            exact this
          · simp [q]
        show some (Sum.inl (1, cap, Sum.inr (Sum.inl fun j => lI (g j)))) = some (Sum.inl (1, cap, Sum.inr (Sum.inl fun j => lI ((fun j => if j = i then ga i else g j) j))))
        rw [e2]
      · exact ⟨ga, by rw [am_set_n e]; exact hla, rfl⟩
    have xa := ext_in ka i
    have xb := ext_in kb i
    obtain ⟨s, hs⟩ : ∃ s, s = c + ext ga na i + ext gb nb i := ⟨_, rfl⟩
    obtain ⟨c', hc'⟩ : ∃ c' : Int, c' = if s < 1000000000 then 0 else 1 := ⟨_, rfl⟩
    have hc2 : (c' = 0 ∧ s < 1000000000) ∨ (c' = 1 ∧ 1000000000 ≤ s) := by
      by_cases q : s < 1000000000
      · rw [if_pos q] at hc'; exact Or.inl ⟨hc', q⟩
      · rw [if_neg q] at hc'; exact Or.inr ⟨hc', by omega⟩
    have hx : 0 ≤ s - c' * 1000000000 ∧ s - c' * 1000000000 < 1000000000 := by omega
    obtain ⟨x, hxe⟩ : ∃ x, x = s - c' * 1000000000 := ⟨_, rfl⟩
    have J4 : ∀ u' : Nat, top (updI g i x) u' (i + 1) → am_w X d 99 (160, [.ref t, .ref ta, .ref tb, .int (iI lon), .int (iI most), .long (lI c'), am_U, .int (iI u), .int (iI i), am_U, am_U], [.int (iI u')], h0.set l (am_la cap (updI g i x))) Q := by
      intro u' hu'
      refine wr_istore (ls' := [_, _, _, _, _, _, _, _, _, _, _]) rfl rfl (Nat.le_of_ble_eq_true rfl) rfl ?_
      refine wr_iinc (ls' := [_, _, _, _, _, _, _, _, _, _, _]) rfl rfl rfl rfl ?_
      refine wr_goto rfl rfl ?_
      rw [show (i : Int) + 1 = ((i + 1 : Nat) : Int) by omega]
      refine ih (i + 1) u' (updI g i x) c' (by omega) (by omega) ?_ (dig_step hg (by omega)) (fun j hj => ?_) hu'
      · rw [nv_upd]
        show _ = nv (ext ga na) i + ext ga na i * 1000000000 ^ i + (nv (ext gb nb) i + ext gb nb i * 1000000000 ^ i)
        rw [Int.pow_succ]
        generalize (1000000000 : Int) ^ i = p at he ⊢
        generalize nv (ext ga na) i = A at he ⊢
        generalize nv (ext gb nb) i = B at he ⊢
        generalize nv g i = G at he ⊢
        subst hxe hs
        grind
      · rw [updI_n (by omega)]
        exact hk j (by omega)
    have J3 : am_w X d 99 (121, [.ref t, .ref ta, .ref tb, .int (iI lon), .int (iI most), .long (lI c), am_U, .int (iI u), .int (iI i), .long (lI s), am_U], [.long (lI c')], h0.set l (am_la cap g)) Q := by
      refine wr_lstore (ls' := [_, _, _, _, _, _, _, _, _, _, _]) rfl rfl (Nat.le_of_ble_eq_true rfl) rfl ?_
      refine wr_aload_n rfl rfl rfl ?_
      refine wr_get (ci := 5) (f := 0) rfl rfl rfl (by assumption) rfl ?_
      refine wr_iload rfl rfl rfl ?_
      refine wr_lload rfl rfl rfl ?_
      refine wr_lload rfl rfl rfl ?_
      refine wr_ldc2 (z := 1000000000) rfl rfl rfl (by decide) ?_
      refine wr_lmul rfl rfl ?_
      refine wr_lsub rfl rfl ?_
      refine wr_last rfl rfl (by assumption) (by omega) (by omega) (fun h1 e1 => ?_)
      rw [List.set_set, Int.toNat_natCast, ← hxe] at e1
      have d_t : h1[t]? = some (.inr (cWh, [.ref l, .int (iI n0)])) := by rw [e1, am_set_n hne]; exact ht
      have d_l : h1[l]? = some (am_la cap (updI g i x)) := by rw [e1]; exact am_set_s hl
      refine wr_aload_n rfl rfl rfl ?_
      refine wr_get (ci := 5) (f := 0) rfl rfl rfl (by assumption) rfl ?_
      refine wr_iload rfl rfl rfl ?_
      refine wr_lald rfl rfl (by assumption) (by omega) (by omega) ?_
      refine wr_lconst (z := 0) rfl rfl rfl ?_
      rw [Int.toNat_natCast, updI_s]
      refine wr_l_eq rfl rfl rfl rfl rfl (by omega) (by omega) (fun c147 => ?_) (fun c147 => ?_)
      ·
        refine wr_iload rfl rfl rfl ?_
        refine am_w.wk (ls' := [_, _, _, _, _, _, _, _, _, am_U, _]) ⟨Or.inr rfl, Or.inr rfl, Or.inr rfl, Or.inr rfl, Or.inr rfl, Or.inr rfl, Or.inr rfl, Or.inr rfl, Or.inr rfl, Or.inl rfl, Or.inr rfl, trivial⟩ ?_
        rw [e1]
        exact J4 u ((top_step hu).1 c147)
      ·
        refine wr_iload rfl rfl rfl ?_
        refine wr_iconst rfl rfl ?_
        refine wr_iadd rfl rfl ?_
        refine wr_goto rfl rfl ?_
        refine am_w.wk (ls' := [_, _, _, _, _, _, _, _, _, am_U, _]) ⟨Or.inr rfl, Or.inr rfl, Or.inr rfl, Or.inr rfl, Or.inr rfl, Or.inr rfl, Or.inr rfl, Or.inr rfl, Or.inr rfl, Or.inl rfl, Or.inr rfl, trivial⟩ ?_
        rw [e1, show (i : Int) + 1 = ((i + 1 : Nat) : Int) by omega]
        exact J4 (i + 1) ((top_step hu).2 c147)
    have J2 : am_w X d 99 (104, [.ref t, .ref ta, .ref tb, .int (iI lon), .int (iI most), .long (lI c), am_U, .int (iI u), .int (iI i), am_U, am_U], [.long (lI (ext gb nb i)), .long (lI (c + ext ga na i))], h0.set l (am_la cap g)) Q := by
      refine wr_ladd rfl rfl ?_
      refine wr_lstore (ls' := [_, _, _, _, _, _, _, _, _, _, _]) rfl rfl (Nat.le_of_ble_eq_true rfl) rfl ?_
      refine wr_lload rfl rfl rfl ?_
      refine wr_ldc2 (z := 1000000000) rfl rfl rfl (by decide) ?_
      rw [← hs]
      refine wr_l_lt rfl rfl rfl rfl rfl (by omega) (by omega) (fun c112 => ?_) (fun c112 => ?_)
      ·
        refine wr_lconst (z := 0) rfl rfl rfl ?_
        rw [show (0 : Int) = c' by omega]
        exact J3
      ·
        refine wr_lconst (z := 1) rfl rfl rfl ?_
        refine wr_goto rfl rfl ?_
        rw [show (1 : Int) = c' by omega]
        exact J3
    have J1 : am_w X d 99 (83, [.ref t, .ref ta, .ref tb, .int (iI lon), .int (iI most), .long (lI c), am_U, .int (iI u), .int (iI i), am_U, am_U], [.long (lI (ext ga na i)), .long (lI c)], h0.set l (am_la cap g)) Q := by
      refine wr_ladd rfl rfl ?_
      refine wr_iload rfl rfl rfl ?_
      refine wr_aload_n rfl rfl rfl ?_
      refine wr_get (ci := 5) (f := 1) rfl rfl rfl (by assumption) rfl ?_
      refine wr_icmp_ge rfl rfl rfl (by omega) (by omega) (fun c90 => ?_) (fun c90 => ?_)
      ·
        refine wr_lconst (z := 0) rfl rfl rfl ?_
        rw [show (0 : Int) = ext gb nb i from (ext_ge (by omega)).symm]
        exact J2
      ·
        refine wr_aload_n rfl rfl rfl ?_
        refine wr_get (ci := 5) (f := 0) rfl rfl rfl (by assumption) rfl ?_
        refine wr_iload rfl rfl rfl ?_
        refine wr_lald rfl rfl (by assumption) (by omega) (by omega) ?_
        refine wr_goto rfl rfl ?_
        rw [Int.toNat_natCast, ← ext_lt (g := gb) (n := nb) (j := i) (by omega)]
        exact J2
    refine wr_iload rfl rfl rfl ?_
    refine wr_iload rfl rfl rfl ?_
    refine wr_icmp_ge rfl rfl rfl (by omega) (by omega) (fun c58 => ?_) (fun c58 => ?_)
    · exfalso; omega
    ·
      refine wr_lload rfl rfl rfl ?_
      refine wr_iload rfl rfl rfl ?_
      refine wr_aload_n rfl rfl rfl ?_
      refine wr_get (ci := 5) (f := 1) rfl rfl rfl (by assumption) rfl ?_
      refine wr_icmp_ge rfl rfl rfl (by omega) (by omega) (fun c69 => ?_) (fun c69 => ?_)
      ·
        refine wr_lconst (z := 0) rfl rfl rfl ?_
        rw [show (0 : Int) = ext ga na i from (ext_ge (by omega)).symm]
        exact J1
      ·
        refine wr_aload_n rfl rfl rfl ?_
        refine wr_get (ci := 5) (f := 0) rfl rfl rfl (by assumption) rfl ?_
        refine wr_iload rfl rfl rfl ?_
        refine wr_lald rfl rfl (by assumption) (by omega) (by omega) ?_
        refine wr_goto rfl rfl ?_
        rw [Int.toNat_natCast, hfa, ← ext_lt (g := ga) (n := na) (j := i) (by omega)]
        exact J1
theorem wp_sum {d t l cap ta la ca tb lb cb : Nat} {h : am_H} {v0 va vb : Int} (ht : isW h t l cap v0) (ha : isW h ta la ca va) (hb : isW h tb lb cb vb) (hcap : 0 < cap ∧ cap ≤ 1000000) (hca : ca ≤ 1000000) (hcb : cb ≤ 1000000) (hdb : l ≠ lb) (hfit : va + vb < 1000000000 ^ cap) :
    am_c X (d + 1) 99 [.ref t, .ref ta, .ref tb] h (fun r h' => r = none ∧ isW h' t l cap (va + vb) ∧ fr [t, l] h h') := by
  obtain ⟨g0, n0, c_t, c_l, q1, q2, q3⟩ := ht
  obtain ⟨ga, na, c_ta, c_la, p1, p2, p3⟩ := ha
  obtain ⟨gb, nb, c_tb, c_lb, r1, r2, r3⟩ := hb
  have s1 := nv_nonneg p2.1
  have s2 := nv_nonneg r2.1
  have hna : na ≤ cap := nv_fit p2 (by omega)
  have hnb : nb ≤ cap := nv_fit r2 (by omega)
  have hne : l ≠ t := fun e => am_oa c_t c_l e.symm
  have J2 : ∀ lon : Nat, na ≤ lon → nb ≤ lon → ∀ most : Nat, most ≤ cap → lon ≤ most → (lon < most ∨ most = cap) → am_w X d 99 (43, [.ref t, .ref ta, .ref tb, .int (iI lon), am_U, am_U, am_U, am_U, am_U, am_U, am_U], [.int (iI most)], h) (fun r h' => r = none ∧ isW h' t l cap (va + vb) ∧ fr [t, l] h h') := by
    intro lon h1 h2 most h3 h4 h5
    refine wr_istore (ls' := [_, _, _, _, _, _, _, _, _, _, _]) rfl rfl (Nat.le_of_ble_eq_true rfl) rfl ?_
    refine wr_lconst (z := 0) rfl rfl rfl ?_
    refine wr_lstore (ls' := [_, _, _, _, _, _, _, _, _, _, _]) rfl rfl (Nat.le_of_ble_eq_true rfl) rfl ?_
    refine wr_iconst rfl rfl ?_
    refine wr_istore (ls' := [_, _, _, _, _, _, _, _, _, _, _]) rfl rfl (Nat.le_of_ble_eq_true rfl) rfl ?_
    refine wr_iconst rfl rfl ?_
    refine wr_istore (ls' := [_, _, _, _, _, _, _, _, _, _, _]) rfl rfl (Nat.le_of_ble_eq_true rfl) rfl ?_
    have hw := wp_sum_loop (X := X) (d := d) (lon := lon) (most := most) (Q := fun r h' => r = none ∧ isW h' t l cap (va + vb) ∧ fr [t, l] h h') c_t c_l c_ta c_la c_tb c_lb hcap.2 hca hcb p1 r1 p2 r2 h3 hdb ?_ most 0 0 g0 0 (by omega) (Or.inl rfl) rfl (fun j hj => by omega) (fun j hj => rfl) ⟨Nat.le_refl _, fun j a b => by omega, fun q => by omega⟩
    · rw [am_set_id c_l] at hw
      exact hw
    · intro g u c hc he hg hu
      rw [nv_ext (by omega), nv_ext (by omega), p3, r3] at he
      have n1 := nv_nonneg hg
      have hlt : va + vb < 1000000000 ^ most := by
        rcases h5 with q | q
        · have a1 := bp_mono (m := na) (n := lon) h1
          have a2 := bp_mono (m := nb) (n := lon) h2
          have a3 := bp_mono (m := lon + 1) (n := most) (by omega)
          rw [Int.pow_succ] at a3
          have a4 := bp_pos lon
          omega
        · rw [q]; exact hfit
      have hc0 : c = 0 := by
        rcases hc with q | q
        · exact q
        · subst q; omega
      subst hc0
      have e2 : nv g u = va + vb := by rw [← top_nv hu]; omega
      have hu1 := hu.1
      refine ⟨rfl, ?_, fr_set2⟩
      rw [← e2]
      exact isW.mk2 c_t c_l hne (by omega) ⟨fun j hj => hg j (by omega), hu.2.2⟩
  have J1 : ∀ lon : Nat, na ≤ lon → nb ≤ lon → lon ≤ cap → am_w X d 99 (22, [.ref t, .ref ta, .ref tb, am_U, am_U, am_U, am_U, am_U, am_U, am_U, am_U], [.int (iI lon)], h) (fun r h' => r = none ∧ isW h' t l cap (va + vb) ∧ fr [t, l] h h') := by
    intro lon h1 h2 h3
    refine wr_istore_n (ls' := [_, _, _, _, _, _, _, _, _, _, _]) rfl rfl (Nat.le_of_ble_eq_true rfl) rfl ?_
    refine wr_iload_n rfl rfl rfl ?_
    refine wr_aload_n rfl rfl rfl ?_
    refine wr_get (ci := 5) (f := 0) rfl rfl rfl (by assumption) rfl ?_
    refine wr_alen rfl rfl (by assumption) (by decide) ?_
    refine wr_icmp_ge rfl rfl rfl (by omega) (by omega) (fun c29 => ?_) (fun c29 => ?_)
    ·
      refine wr_aload_n rfl rfl rfl ?_
      refine wr_get (ci := 5) (f := 0) rfl rfl rfl (by assumption) rfl ?_
      refine wr_alen rfl rfl (by assumption) (by decide) ?_
      exact J2 lon h1 h2 cap (by omega) (by omega) (by omega)
    ·
      refine wr_iload_n rfl rfl rfl ?_
      refine wr_iconst rfl rfl ?_
      refine wr_iadd rfl rfl ?_
      refine wr_goto rfl rfl ?_
      rw [show (lon : Int) + 1 = ((lon + 1 : Nat) : Int) by omega]
      exact J2 lon h1 h2 (lon + 1) (by omega) (by omega) (by omega)
  refine am_c.of (Nat.le_of_ble_eq_true rfl) ?_
  show am_w _ _ _ (_, [_, _, _, _, _, _, _, _, _, _, _], _, _) _
  refine wr_aload_n rfl rfl rfl ?_
  refine wr_get (ci := 5) (f := 1) rfl rfl rfl (by assumption) rfl ?_
  refine wr_aload_n rfl rfl rfl ?_
  refine wr_get (ci := 5) (f := 1) rfl rfl rfl (by assumption) rfl ?_
  refine wr_icmp_le rfl rfl rfl (by omega) (by omega) (fun c8 => ?_) (fun c8 => ?_)
  ·
    refine wr_aload_n rfl rfl rfl ?_
    refine wr_get (ci := 5) (f := 1) rfl rfl rfl (by assumption) rfl ?_
    exact J1 nb (by omega) (by omega) (by omega)
  ·
    refine wr_aload_n rfl rfl rfl ?_
    refine wr_get (ci := 5) (f := 1) rfl rfl rfl (by assumption) rfl ?_
    refine wr_goto rfl rfl ?_
    exact J1 na (by omega) (by omega) (by omega)
end WHR
