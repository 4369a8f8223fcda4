/-! WHOLE NUMBERS OF THE CLASS: takeAway, timesAt -/
/-- the number at cells t, l has these limbs and this size -/
theorem isW.ex {h : am_H} {t l cap : Nat} {v : Int} (w : isW h t l cap v) : 0 ≤ v := by
  obtain ⟨g, n, a, b, c, e, f⟩ := w
  have := nv_nonneg e.1
  omega
section WHU
variable {X : Nat × (Nat → Int32)}
/-- the trimming at takeAway's end -/
theorem wp_trim {d t l cap td sh : Nat} {h0 : am_H} {n0 tm w : Int} {g : Nat → Int} {Q : Option Value → am_H → Prop} (ht : h0[t]? = some (.inr (cWh, [.ref l, .int (iI n0)]))) (hl : h0[l]? = some (am_la cap g)) (hcap : cap ≤ 1000000)
    (K : ∀ n : Nat, n ≤ cap → nok g n → nv g n = w → Q none (h0.set t (.inr (cWh, [.ref l, .int (iI n)])))) :
    ∀ (n : Nat), n ≤ cap → (∀ j, j < n → 0 ≤ g j ∧ g j < 1000000000) → nv g n = w → am_w X d 94 (120, [.ref t, .ref td, .long (lI tm), am_U, .int (iI sh), am_U, am_U, am_U, am_U, am_U], [], h0.set t (.inr (cWh, [.ref l, .int (iI n)]))) Q := by
  have hne : t ≠ l := am_oa ht hl
  intro n
  induction n with
  | zero =>
    intro hn hg hw
    have c_t : (h0.set t (.inr (cWh, [.ref l, .int (iI (0 : Nat))])))[t]? = some (.inr (cWh, [.ref l, .int (iI (0 : Nat))])) := am_set_s ht
    refine wr_aload_n rfl rfl rfl ?_
    refine wr_get (ci := 5) (f := 1) rfl rfl rfl (by assumption) rfl ?_
    refine wr_if_le rfl rfl rfl (by omega) (fun c124 => ?_) (fun c124 => ?_)
    ·
      refine wr_vret rfl rfl ?_
      exact K 0 (by omega) ⟨fun j hj => by omega, fun q => by omega⟩ hw
    · exfalso; omega
  | succ n ih =>
    intro hn hg hw
    have c_t : (h0.set t (.inr (cWh, [.ref l, .int (iI (n + 1 : Nat))])))[t]? = some (.inr (cWh, [.ref l, .int (iI (n + 1 : Nat))])) := am_set_s ht
    have c_l : (h0.set t (.inr (cWh, [.ref l, .int (iI (n + 1 : Nat))])))[l]? = some (am_la cap g) := by rw [am_set_n hne]; exact hl
    have xg := hg n (by omega)
    refine wr_aload_n rfl rfl rfl ?_
    refine wr_get (ci := 5) (f := 1) rfl rfl rfl (by assumption) rfl ?_
    refine wr_if_le rfl rfl rfl (by omega) (fun c124 => ?_) (fun c124 => ?_)
    · exfalso; omega
    ·
      refine wr_aload_n rfl rfl rfl ?_
      refine wr_get (ci := 5) (f := 0) rfl rfl rfl (by assumption) rfl ?_
      refine wr_aload_n rfl rfl rfl ?_
      refine wr_get (ci := 5) (f := 1) rfl rfl rfl (by assumption) rfl ?_
      refine wr_iconst rfl rfl ?_
      refine wr_isub rfl rfl ?_
      rw [show ((n + 1 : Nat) : Int) - 1 = n by omega]
      refine wr_lald rfl rfl (by assumption) (by omega) (by omega) ?_
      refine wr_lconst (z := 0) rfl rfl rfl ?_
      rw [Int.toNat_natCast]
      refine wr_l_ne rfl rfl rfl rfl rfl (by omega) (by omega) (fun c139 => ?_) (fun c139 => ?_)
      ·
        refine wr_vret rfl rfl ?_
        exact K (n + 1) hn ⟨hg, fun q => by rw [show n + 1 - 1 = n by omega]; exact c139⟩ hw
      ·
        refine wr_aload_n rfl rfl rfl ?_
        refine wr_dup rfl rfl ?_
        refine wr_get (ci := 5) (f := 1) rfl rfl rfl (by assumption) rfl ?_
        refine wr_iconst rfl rfl ?_
        refine wr_isub rfl rfl ?_
        rw [show ((n + 1 : Nat) : Int) - 1 = n by omega]
        refine wr_putI (ci := 5) (f := 1) (fs' := [_, _]) rfl rfl rfl (by assumption) rfl rfl rfl (fun h1 e1 => ?_)
        rw [List.set_set] at e1
        subst e1
        refine wr_goto rfl rfl ?_
        refine ih (by omega) (fun j hj => hg j (by omega)) ?_
        rw [← hw]
        show _ = nv g n + g n * _
        rw [show g n = 0 by omega]
        omega
theorem wp_take_loop {d t l cap td ld cd nd n sh : Nat} {h0 : am_H} {tm Rv : Int} {g0 gd : Nat → Int} {Q : Option Value → am_H → Prop} (ht : h0[t]? = some (.inr (cWh, [.ref l, .int (iI n)]))) (hl : h0[l]? = some (am_la cap g0)) (htd : h0[td]? = some (.inr (cWh, [.ref ld, .int (iI nd)]))) (hld : h0[ld]? = some (am_la cd gd))
    (hcap : cap ≤ 1000000) (hcd : cd ≤ 1000000) (hn : n ≤ cap) (hnd : nd ≤ cd) (kd : nok gd nd) (htm : 1 ≤ tm ∧ tm ≤ 4000000000) (hsh : nd + sh ≤ n) (hd : l ≠ ld)
    (K : ∀ (g : Nat → Int) (c : Int) (i : Nat), nd ≤ i → sh + i ≤ n → 0 ≤ c → (c = 0 ∨ sh + i = n) → nv g n - c * 1000000000 ^ (sh + i) = Rv - tm * nv gd nd * 1000000000 ^ sh → (∀ j, j < n → 0 ≤ g j ∧ g j < 1000000000) → am_w X d 94 (120, [.ref t, .ref td, .long (lI tm), am_U, .int (iI sh), am_U, am_U, am_U, am_U, am_U], [], h0.set l (am_la cap g)) Q) :
    ∀ (m i : Nat) (g : Nat → Int) (c : Int), sh + i + m = n → 0 ≤ c → c ≤ tm → nv g n - c * 1000000000 ^ (sh + i) = Rv - tm * nv (ext gd nd) i * 1000000000 ^ sh → (∀ j, j < n → 0 ≤ g j ∧ g j < 1000000000) → am_w X d 94 (6, [.ref t, .ref td, .long (lI tm), am_U, .int (iI sh), .long (lI c), am_U, .int (iI i), am_U, am_U], [], h0.set l (am_la cap g)) Q := by
  have hne : l ≠ t := fun e => am_oa ht hl e.symm
  have hne2 : l ≠ td := fun e => am_oa htd hl e.symm
  intro m
  induction m with
  | zero =>
    intro i g c hm hc0 hc1 he hg
    have c_t : (h0.set l (am_la cap g))[t]? = some (.inr (cWh, [.ref l, .int (iI n)])) := by rw [am_set_n hne]; exact ht
    refine wr_iload rfl rfl rfl ?_
    refine wr_iload rfl rfl rfl ?_
    refine wr_iadd rfl rfl ?_
    refine wr_aload_n rfl rfl rfl ?_
    refine wr_get (ci := 5) (f := 1) rfl rfl rfl (by assumption) rfl ?_
    refine wr_icmp_ge rfl rfl rfl (by omega) (by omega) (fun c15 => ?_) (fun c15 => ?_)
    ·
      refine am_w.wk (ls' := [_, _, _, _, _, am_U, _, am_U, _, _]) ⟨Or.inr rfl, Or.inr rfl, Or.inr rfl, Or.inr rfl, Or.inr rfl, Or.inl rfl, Or.inr rfl, Or.inl rfl, Or.inr rfl, Or.inr rfl, trivial⟩ ?_
      refine K g c i (by omega) (by omega) hc0 (Or.inr (by omega)) ?_ hg
      rw [nv_ext (by omega)] at he
      exact he
    · exfalso; omega
  | succ m ih =>
    intro i g c hm hc0 hc1 he hg
    have c_t : (h0.set l (am_la cap g))[t]? = some (.inr (cWh, [.ref l, .int (iI n)])) := by rw [am_set_n hne]; exact ht
    have c_l : (h0.set l (am_la cap g))[l]? = some (am_la cap g) := am_set_s hl
    have c_td : (h0.set l (am_la cap g))[td]? = some (.inr (cWh, [.ref ld, .int (iI nd)])) := by rw [am_set_n hne2]; exact htd
    have c_ld : (h0.set l (am_la cap g))[ld]? = some (am_la cd gd) := by rw [am_set_n hd]; exact hld
    have xg := hg (sh + i) (by omega)
    have xd := ext_in kd i
    have xm : 0 ≤ ext gd nd i * tm ∧ ext gd nd i * tm ≤ 999999999 * tm := ⟨Int.mul_nonneg (by omega) (by omega), Int.mul_le_mul_of_nonneg_right (by omega) (by omega)⟩
    obtain ⟨s, hs⟩ : ∃ s, s = g (sh + i) - c - ext gd nd i * tm := ⟨_, rfl⟩
    obtain ⟨c', hc'⟩ : ∃ c' : Int, c' = if s < 0 then (999999999 - s) / 1000000000 else 0 := ⟨_, rfl⟩
    have hc2 : (c' = (999999999 - s) / 1000000000 ∧ s < 0) ∨ (c' = 0 ∧ 0 ≤ s) := by
      by_cases q : s < 0
      · rw [if_pos q] at hc'; exact Or.inl ⟨hc', q⟩
      · rw [if_neg q] at hc'; exact Or.inr ⟨hc', by omega⟩
    obtain ⟨x, hxe⟩ : ∃ x, x = s + c' * 1000000000 := ⟨_, rfl⟩
    have hx : 0 ≤ x ∧ x < 1000000000 ∧ 0 ≤ c' ∧ c' ≤ tm := by omega
    have J3 : am_w X d 94 (93, [.ref t, .ref td, .long (lI tm), am_U, .int (iI sh), .long (lI c), am_U, .int (iI i), .long (lI s), am_U], [.long (lI c')], h0.set l (am_la cap g)) Q := by
      refine wr_lstore (ls' := [_, _, _, _, _, _, _, _, _, _]) rfl rfl (Nat.le_of_ble_eq_true rfl) rfl ?_
      refine wr_aload_n rfl rfl rfl ?_
      refine wr_get (ci := 5) (f := 0) rfl rfl rfl (by assumption) rfl ?_
      refine wr_iload rfl rfl rfl ?_
      refine wr_iload rfl rfl rfl ?_
      refine wr_iadd rfl rfl ?_
      refine wr_lload rfl rfl rfl ?_
      refine wr_lload rfl rfl rfl ?_
      refine wr_ldc2 (z := 1000000000) rfl rfl rfl (by decide) ?_
      refine wr_lmul rfl rfl ?_
      refine wr_ladd rfl rfl ?_
      refine wr_last rfl rfl (by assumption) (by omega) (by omega) (fun h1 e1 => ?_)
      rw [List.set_set, show ((sh : Int) + i).toNat = sh + i by omega, ← hxe] at e1
      subst e1
      refine wr_iinc (ls' := [_, _, _, _, _, _, _, _, _, _]) rfl rfl rfl rfl ?_
      refine wr_goto rfl rfl ?_
      refine am_w.wk (ls' := [_, _, _, _, _, _, _, _, am_U, _]) ⟨Or.inr rfl, Or.inr rfl, Or.inr rfl, Or.inr rfl, Or.inr rfl, Or.inr rfl, Or.inr rfl, Or.inr rfl, Or.inl rfl, Or.inr rfl, trivial⟩ ?_
      rw [show (i : Int) + 1 = ((i + 1 : Nat) : Int) by omega]
      refine ih (i + 1) (updI g (sh + i) x) c' (by omega) (by omega) (by omega) ?_ (dig_at hg (by omega))
      rw [nv_at (by omega)]
      show _ = Rv - tm * (nv (ext gd nd) i + ext gd nd i * 1000000000 ^ i) * 1000000000 ^ sh
      rw [show sh + (i + 1) = (sh + i) + 1 by omega, Int.pow_succ]
      rw [Int.pow_add] at he ⊢
      generalize (1000000000 : Int) ^ i = p at he ⊢
      generalize (1000000000 : Int) ^ sh = r at he ⊢
      generalize nv (ext gd nd) i = A at he ⊢
      generalize nv g n = G at he ⊢
      clear hc' hc2 hx
      subst hxe hs
      grind
    have J2 : am_w X d 94 (69, [.ref t, .ref td, .long (lI tm), am_U, .int (iI sh), .long (lI c), am_U, .int (iI i), am_U, am_U], [.long (lI (ext gd nd i * tm)), .long (lI (g (sh + i) - c))], h0.set l (am_la cap g)) Q := by
      refine wr_lsub rfl rfl ?_
      refine wr_lstore (ls' := [_, _, _, _, _, _, _, _, _, _]) rfl rfl (Nat.le_of_ble_eq_true rfl) rfl ?_
      refine wr_lload rfl rfl rfl ?_
      refine wr_lconst (z := 0) rfl rfl rfl ?_
      rw [← hs]
      refine wr_l_ge rfl rfl rfl rfl rfl (by omega) (by omega) (fun c75 => ?_) (fun c75 => ?_)
      ·
        refine wr_lconst (z := 0) rfl rfl rfl ?_
        rw [show (0 : Int) = c' by omega]
        exact J3
      ·
        refine wr_ldc2 (z := 999999999) rfl rfl rfl (by decide) ?_
        refine wr_lload rfl rfl rfl ?_
        refine wr_lsub rfl rfl ?_
        refine wr_ldc2 (z := 1000000000) rfl rfl rfl (by decide) ?_
        refine wr_ldivN rfl rfl (by omega) (by omega) (by omega) (by omega) ?_
        refine wr_goto rfl rfl ?_
        rw [show (999999999 - s) / 1000000000 = c' by omega]
        exact J3
    have J1 : am_w X d 94 (34, [.ref t, .ref td, .long (lI tm), am_U, .int (iI sh), .long (lI c), am_U, .int (iI i), am_U, am_U], [], h0.set l (am_la cap g)) Q := by
      refine wr_aload_n rfl rfl rfl ?_
      refine wr_get (ci := 5) (f := 0) rfl rfl rfl (by assumption) rfl ?_
      refine wr_iload rfl rfl rfl ?_
      refine wr_iload rfl rfl rfl ?_
      refine wr_iadd rfl rfl ?_
      refine wr_lald rfl rfl (by assumption) (by omega) (by omega) ?_
      rw [show ((sh : Int) + i).toNat = sh + i by omega]
      refine wr_lload rfl rfl rfl ?_
      refine wr_lsub rfl rfl ?_
      refine wr_iload rfl rfl rfl ?_
      refine wr_aload_n rfl rfl rfl ?_
      refine wr_get (ci := 5) (f := 1) rfl rfl rfl (by assumption) rfl ?_
      refine wr_icmp_ge rfl rfl rfl (by omega) (by omega) (fun c53 => ?_) (fun c53 => ?_)
      ·
        refine wr_lconst (z := 0) rfl rfl rfl ?_
        rw [show (0 : Int) = ext gd nd i * tm by rw [ext_ge (by omega)]; omega]
        exact J2
      ·
        refine wr_aload_n rfl rfl rfl ?_
        refine wr_get (ci := 5) (f := 0) rfl rfl rfl (by assumption) rfl ?_
        refine wr_iload rfl rfl rfl ?_
        refine wr_lald rfl rfl (by assumption) (by omega) (by omega) ?_
        refine wr_lload_n rfl rfl rfl ?_
        refine wr_lmul rfl rfl ?_
        refine wr_goto rfl rfl ?_
        rw [Int.toNat_natCast, ← ext_lt (g := gd) (n := nd) (j := i) (by omega)]
        exact J2
    refine wr_iload rfl rfl rfl ?_
    refine wr_iload rfl rfl rfl ?_
    refine wr_iadd rfl rfl ?_
    refine wr_aload_n rfl rfl rfl ?_
    refine wr_get (ci := 5) (f := 1) rfl rfl rfl (by assumption) rfl ?_
    refine wr_icmp_ge rfl rfl rfl (by omega) (by omega) (fun c15 => ?_) (fun c15 => ?_)
    · exfalso; omega
    ·
      refine wr_iload rfl rfl rfl ?_
      refine wr_aload_n rfl rfl rfl ?_
      refine wr_get (ci := 5) (f := 1) rfl rfl rfl (by assumption) rfl ?_
      refine wr_icmp_lt rfl rfl rfl (by omega) (by omega) (fun c24 => ?_) (fun c24 => ?_)
      · exact J1
      ·
        refine wr_lload rfl rfl rfl ?_
        refine wr_lconst (z := 0) rfl rfl rfl ?_
        refine wr_l_le rfl rfl rfl rfl rfl (by omega) (by omega) (fun c30 => ?_) (fun c30 => ?_)
        ·
          refine am_w.wk (ls' := [_, _, _, _, _, am_U, _, am_U, _, _]) ⟨Or.inr rfl, Or.inr rfl, Or.inr rfl, Or.inr rfl, Or.inr rfl, Or.inl rfl, Or.inr rfl, Or.inl rfl, Or.inr rfl, Or.inr rfl, trivial⟩ ?_
          refine K g c i (by omega) (by omega) hc0 (Or.inl (by omega)) ?_ hg
          rw [nv_ext (by omega)] at he
          exact he
        · exact J1
theorem wp_takeAway {d t l cap td ld cd sh : Nat} {h : am_H} {Rv Dv tm : Int} (ht : isW h t l cap Rv) (hd : isW h td ld cd Dv) (hcap : cap ≤ 1000000) (hcd : cd ≤ 1000000) (hld : l ≠ ld) (htm : 1 ≤ tm ∧ tm ≤ 4000000000) (hD : 0 < Dv) (hle : tm * Dv * 1000000000 ^ sh ≤ Rv) (hsh : sh ≤ 1000000) :
    am_c X (d + 1) 94 [.ref t, .ref td, .long (lI tm), .int (iI sh)] h (fun r h' => r = none ∧ isW h' t l cap (Rv - tm * Dv * 1000000000 ^ sh) ∧ fr [t, l] h h') := by
  obtain ⟨g0, n, c_t, c_l, q1, q2, q3⟩ := ht
  obtain ⟨gd, nd, c_td, c_ld, p1, p2, p3⟩ := hd
  have hne : l ≠ t := fun e => am_oa c_t c_l e.symm
  have n0 : 0 < nd := by
    rcases Nat.eq_zero_or_pos nd with q | q
    · subst q
      have : nv gd 0 = 0 := rfl
      omega
    · exact q
  have b1 := nv_low p2 n0
  have b2 := nv_nonneg q2.1
  have b3 : 1000000000 ^ (nd - 1 + sh) ≤ tm * Dv * 1000000000 ^ sh := by
    rw [Int.pow_add]
    refine Int.mul_le_mul_of_nonneg_right ?_ (by have := bp_pos sh; omega)
    have : 1 * Dv ≤ tm * Dv := Int.mul_le_mul_of_nonneg_right (by omega) (by omega)
    omega
  have hsn : nd + sh ≤ n := by
    rcases Nat.lt_or_ge n (nd + sh) with q | q
    · have := bp_mono (m := n) (n := nd - 1 + sh) (by omega)
      omega
    · exact q
  refine am_c.of (Nat.le_of_ble_eq_true rfl) ?_
  show am_w _ _ _ (_, [_, _, _, _, _, _, _, _, _, _], _, _) _
  refine wr_lconst (z := 0) rfl rfl rfl ?_
  refine wr_lstore (ls' := [_, _, _, _, _, _, _, _, _, _]) rfl rfl (Nat.le_of_ble_eq_true rfl) rfl ?_
  refine wr_iconst rfl rfl ?_
  refine wr_istore (ls' := [_, _, _, _, _, _, _, _, _, _]) rfl rfl (Nat.le_of_ble_eq_true rfl) rfl ?_
  have hw := wp_take_loop (X := X) (d := d) (sh := sh) (tm := tm) (Rv := Rv) (Q := fun r h' => r = none ∧ isW h' t l cap (Rv - tm * Dv * 1000000000 ^ sh) ∧ fr [t, l] h h') c_t c_l c_td c_ld hcap hcd q1 p1 p2 htm hsn hld ?_ (n - sh) 0 g0 0 (by omega) (by omega) (by omega) ?_ q2.1
  · rw [am_set_id c_l] at hw
    exact hw
  · intro g c i hi1 hi2 hc hce he hg
    rw [p3] at he
    have b4 := nv_nonneg hg
    have hc0 : c = 0 := by
      rcases hce with q | q
      · exact q
      · rw [q] at he
        rcases Int.lt_or_le 0 c with r | r
        · have : 1 * 1000000000 ^ n ≤ c * 1000000000 ^ n := Int.mul_le_mul_of_nonneg_right (by omega) (by have := bp_pos n; omega)
          omega
        · omega
    subst hc0
    have c_t' : (h.set l (am_la cap g))[t]? = some (.inr (cWh, [.ref l, .int (iI n)])) := by rw [am_set_n hne]; exact c_t
    have c_l' : (h.set l (am_la cap g))[l]? = some (am_la cap g) := am_set_s c_l
    have hw := wp_trim (X := X) (d := d) (td := td) (sh := sh) (tm := tm) (w := Rv - tm * Dv * 1000000000 ^ sh) (Q := fun r h' => r = none ∧ isW h' t l cap (Rv - tm * Dv * 1000000000 ^ sh) ∧ fr [t, l] h h') c_t' c_l' hcap ?_ n q1 hg (by omega)
    · rw [am_set_id c_t'] at hw
      exact hw
    · intro m hm hk hv
      refine ⟨rfl, ?_, fr_set2⟩
      rw [← hv]
      exact isW.mk2 c_t c_l hne hm hk
  · rw [q3]
    show _ - 0 * _ = _ - tm * 0 * _
    omega
/-- timesAt's comparison: limbs of this from sh on, against the divisor's -/
theorem wp_times_cmp {d t l cap td ld cd nd n sh : Nat} {h : am_H} {tp hi : Int} {g gd : Nat → Int} {Q : Option Value → am_H → Prop} (c_t : h[t]? = some (.inr (cWh, [.ref l, .int (iI n)]))) (c_l : h[l]? = some (am_la cap g)) (c_td : h[td]? = some (.inr (cWh, [.ref ld, .int (iI nd)]))) (c_ld : h[ld]? = some (am_la cd gd)) (hcap : cap ≤ 1000000) (hcd : cd ≤ 1000000) (hn : sh + nd ≤ cap) (hnd : nd ≤ cd) (hg : ∀ j, j < nd → 0 ≤ g (sh + j) ∧ g (sh + j) < 1000000000) (hgd : ∀ j, j < nd → 0 ≤ gd j ∧ gd j < 1000000000)
    (K : ∀ b : Int, (b = 1 ∧ nv gd nd ≤ nv (fun j => g (sh + j)) nd) ∨ (b = 0 ∧ nv (fun j => g (sh + j)) nd < nv gd nd) → Q (some (.long (lI b))) h) :
    ∀ i : Nat, i ≤ nd → (∀ j, i ≤ j → j < nd → g (sh + j) = gd j) → am_w X d 93 (113, [.ref t, .ref td, .int (iI sh), .int (iI tp), .int (iI hi), am_U, am_U, am_U, am_U, .int (iI ((i : Int) - 1))], [], h) Q := by
  intro i
  induction i with
  | zero =>
    intro hi he
    have h1 : nv (fun j => g (sh + j)) nd = nv gd nd := nv_congr (fun j hj => he j (by omega) hj)
    refine wr_iload rfl rfl rfl ?_
    refine wr_if_lt rfl rfl rfl (by omega) (fun c115 => ?_) (fun c115 => ?_)
    ·
      refine wr_lconst (z := 1) rfl rfl rfl ?_
      refine wr_lret rfl rfl ?_
      exact K 1 (Or.inl ⟨rfl, by omega⟩)
    · exfalso; omega
  | succ i ih =>
    intro hi he
    have d1 := hg i (by omega)
    have d2 := hgd i (by omega)
    rw [show ((i + 1 : Nat) : Int) - 1 = i by omega]
    have gt : ∀ {a b : Nat → Int}, (∀ j, j < nd → 0 ≤ a j ∧ a j < 1000000000) → (∀ j, j < nd → 0 ≤ b j ∧ b j < 1000000000) → (∀ j, i < j → j < nd → a j = b j) → b i < a i → nv b nd < nv a nd := by
      intro a b ha hb hab hlt
      have h1 := nv_split (g := a) (g' := b) (i := i + 1) (n := nd) (by omega) (fun j x y => hab j (by omega) y)
      have h2 := nv_nonneg (g := a) (n := i) (fun j hj => ha j (by omega))
      have h3 := nv_nonneg (g := b) (n := i) (fun j hj => hb j (by omega))
      have h4 : nv a (i + 1) = nv a i + a i * 1000000000 ^ i := rfl
      have h5 : nv b (i + 1) = nv b i + b i * 1000000000 ^ i := rfl
      have h6 : (b i + 1) * 1000000000 ^ i ≤ a i * 1000000000 ^ i := Int.mul_le_mul_of_nonneg_right (by omega) (by have := bp_pos i; omega)
      rw [Int.add_mul] at h6
      omega
    refine wr_iload rfl rfl rfl ?_
    refine wr_if_lt rfl rfl rfl (by omega) (fun c115 => ?_) (fun c115 => ?_)
    · exfalso; omega
    ·
      refine wr_aload_n rfl rfl rfl ?_
      refine wr_get (ci := 5) (f := 0) rfl rfl rfl (by assumption) rfl ?_
      refine wr_iload_n rfl rfl rfl ?_
      refine wr_iload rfl rfl rfl ?_
      refine wr_iadd rfl rfl ?_
      refine wr_lald rfl rfl (by assumption) (by omega) (by omega) ?_
      refine wr_aload_n rfl rfl rfl ?_
      refine wr_get (ci := 5) (f := 0) rfl rfl rfl (by assumption) rfl ?_
      refine wr_iload rfl rfl rfl ?_
      refine wr_lald rfl rfl (by assumption) (by omega) (by omega) ?_
      rw [show ((sh : Int) + i).toNat = sh + i by omega, Int.toNat_natCast]
      refine wr_l_eq rfl rfl rfl rfl rfl (by omega) (by omega) (fun c134 => ?_) (fun c134 => ?_)
      ·
        refine wr_iinc (ls' := [_, _, _, _, _, _, _, _, _, _]) rfl rfl rfl rfl ?_
        refine wr_goto rfl rfl ?_
        refine ih (by omega) (fun j x y => ?_)
        by_cases e : j = i
        · subst e; exact c134
        · exact he j (by omega) y
      ·
        refine wr_aload_n rfl rfl rfl ?_
        refine wr_get (ci := 5) (f := 0) rfl rfl rfl (by assumption) rfl ?_
        refine wr_iload_n rfl rfl rfl ?_
        refine wr_iload rfl rfl rfl ?_
        refine wr_iadd rfl rfl ?_
        refine wr_lald rfl rfl (by assumption) (by omega) (by omega) ?_
        refine wr_aload_n rfl rfl rfl ?_
        refine wr_get (ci := 5) (f := 0) rfl rfl rfl (by assumption) rfl ?_
        refine wr_iload rfl rfl rfl ?_
        refine wr_lald rfl rfl (by assumption) (by omega) (by omega) ?_
        rw [show ((sh : Int) + i).toNat = sh + i by omega, Int.toNat_natCast]
        refine wr_l_le rfl rfl rfl rfl rfl (by omega) (by omega) (fun c154 => ?_) (fun c154 => ?_)
        ·
          refine wr_lconst (z := 0) rfl rfl rfl ?_
          refine wr_lret rfl rfl ?_
          exact K 0 (Or.inr ⟨rfl, gt (a := gd) (b := fun j => g (sh + j)) hgd hg (fun j x y => (he j (by omega) y).symm) (by show g (sh + i) < gd i; omega)⟩)
        ·
          refine wr_lconst (z := 1) rfl rfl rfl ?_
          refine wr_goto rfl rfl ?_
          refine wr_lret rfl rfl ?_
          have := gt (a := fun j => g (sh + j)) (b := gd) hg hgd (fun j x y => he j (by omega) y) (by show gd i < g (sh + i); omega)
          exact K 1 (Or.inl ⟨rfl, by omega⟩)
/-- how often, at least: what timesAt answers -/
def wTimes (h : am_H) (Rv D : Int) (sh : Nat) : Option Value → am_H → Prop := fun r h' => ∃ τ : Int, r = some (.long (lI τ)) ∧ h' = h ∧ 0 ≤ τ ∧ τ < 1000000000 ∧ τ * D * 1000000000 ^ sh ≤ Rv ∧ (τ = 0 → Rv < D * 1000000000 ^ sh) ∧ (0 < τ → 2 * Rv < 3 * (τ + 1) * (D * 1000000000 ^ sh))
theorem times_pure {N dt D p q Rv τ : Int} (hp : 0 < p) (hq : 0 < q) (hdt : 2 ≤ dt) (hN : 0 ≤ N) (d1 : dt * q ≤ D) (d2 : D < (dt + 1) * q) (r1 : N * (p * q) ≤ Rv) (r2 : Rv < (N + 1) * (p * q)) (hτ : τ = N / (dt + 1)) : 0 ≤ τ ∧ τ * D * p ≤ Rv ∧ 2 * Rv < 3 * (τ + 1) * (D * p) := by
  have h1 : τ * (dt + 1) ≤ N := by rw [hτ]; exact Int.ediv_mul_le N (by omega)
  have h2 : N < (τ + 1) * (dt + 1) := by rw [hτ]; exact Int.lt_ediv_add_one_mul_self N (by omega)
  have h0 : 0 ≤ τ := by rw [hτ]; exact Int.ediv_nonneg hN (by omega)
  have pq : 0 < p * q := Int.mul_pos hp hq
  refine ⟨h0, ?_, ?_⟩
  · have a1 : τ * D ≤ τ * ((dt + 1) * q) := Int.mul_le_mul_of_nonneg_left (by omega) h0
    have a2 : τ * D * p ≤ τ * ((dt + 1) * q) * p := Int.mul_le_mul_of_nonneg_right a1 (by omega)
    have a3 : τ * (dt + 1) * (p * q) ≤ N * (p * q) := Int.mul_le_mul_of_nonneg_right h1 (by omega)
    have e1 : τ * ((dt + 1) * q) * p = τ * (dt + 1) * (p * q) := by grind
    omega
  · have b1 : (N + 1) * (p * q) ≤ (τ + 1) * (dt + 1) * (p * q) := Int.mul_le_mul_of_nonneg_right (by omega) (by omega)
    have b2 : (τ + 1) * (2 * (dt + 1)) ≤ (τ + 1) * (3 * dt) := Int.mul_le_mul_of_nonneg_left (by omega) (by omega)
    have b3 : (τ + 1) * (2 * (dt + 1)) * (p * q) ≤ (τ + 1) * (3 * dt) * (p * q) := Int.mul_le_mul_of_nonneg_right b2 (by omega)
    have b4 : dt * q * p ≤ D * p := Int.mul_le_mul_of_nonneg_right d1 (by omega)
    have b5 : 3 * (τ + 1) * (dt * q * p) ≤ 3 * (τ + 1) * (D * p) := Int.mul_le_mul_of_nonneg_left b4 (by omega)
    have e1 : (τ + 1) * (2 * (dt + 1)) * (p * q) = 2 * ((τ + 1) * (dt + 1) * (p * q)) := by grind
    have e2 : (τ + 1) * (3 * dt) * (p * q) = 3 * (τ + 1) * (dt * q * p) := by grind
    omega
theorem wp_timesAt {d t l cap td ld cd nd sh : Nat} {h : am_H} {Rv : Int} {gd : Nat → Int} (ht : isW h t l cap Rv) (c_td : h[td]? = some (.inr (cWh, [.ref ld, .int (iI nd)]))) (c_ld : h[ld]? = some (am_la cd gd)) (hcap : cap ≤ 1000000) (hcd : cd ≤ 1000000) (hnd : nd ≤ cd) (kd : nok gd nd) (n0 : 0 < nd) (h2 : 2 ≤ gd (nd - 1)) (hsh : sh ≤ 1000000) (hR : Rv < nv gd nd * 1000000000 ^ (sh + 1)) :
    am_c X (d + 1) 93 [.ref t, .ref td, .int (iI sh)] h (wTimes h Rv (nv gd nd) sh) := by
  obtain ⟨g, n, c_t, c_l, q1, q2, q3⟩ := ht
  have pp := bp_pos sh
  have pq := bp_pos (nd - 1)
  have dB := nv_nonneg kd.1
  have rB := nv_nonneg q2.1
  have eD : nv gd nd = nv gd (nd - 1) + gd (nd - 1) * 1000000000 ^ (nd - 1) := by
    obtain ⟨w, rfl⟩ : ∃ w, nd = w + 1 := ⟨nd - 1, by omega⟩
    rfl
  have dl := nv_nonneg (g := gd) (n := nd - 1) (fun j hj => kd.1 j (by omega))
  have dt1 := kd.1 (nd - 1) (by omega)
  have d2 : nv gd nd < (gd (nd - 1) + 1) * 1000000000 ^ (nd - 1) := by rw [Int.add_mul]; omega
  have d1 : gd (nd - 1) * 1000000000 ^ (nd - 1) ≤ nv gd nd := by omega
  have d0 : 1 * 1000000000 ^ (nd - 1) ≤ nv gd nd := by
    have : 1 * 1000000000 ^ (nd - 1) ≤ gd (nd - 1) * 1000000000 ^ (nd - 1) := Int.mul_le_mul_of_nonneg_right (by omega) (by omega)
    omega
  have hn2 : n ≤ sh + nd + 1 := by
    refine nv_fit q2 ?_
    have y1 : nv gd nd * 1000000000 ^ (sh + 1) ≤ 1000000000 ^ nd * 1000000000 ^ (sh + 1) := Int.mul_le_mul_of_nonneg_right (by omega) (by have := bp_pos (sh + 1); omega)
    rw [← Int.pow_add, show nd + (sh + 1) = sh + nd + 1 by omega] at y1
    omega
  have small : n ≤ sh + (nd - 1) → Rv < nv gd nd * 1000000000 ^ sh := by
    intro hs
    have y1 := bp_mono (m := n) (n := sh + (nd - 1)) hs
    have y2 : 1 * 1000000000 ^ (nd - 1) * 1000000000 ^ sh ≤ nv gd nd * 1000000000 ^ sh := Int.mul_le_mul_of_nonneg_right d0 (by omega)
    rw [Int.one_mul, ← Int.pow_add, show nd - 1 + sh = sh + (nd - 1) by omega] at y2
    omega
  have R0 : n ≤ sh + (nd - 1) → ∃ τ : Int, (some (Value.long (lI 0))) = some (.long (lI τ)) ∧ h = h ∧ 0 ≤ τ ∧ τ < 1000000000 ∧ τ * nv gd nd * 1000000000 ^ sh ≤ Rv ∧ (τ = 0 → Rv < nv gd nd * 1000000000 ^ sh) ∧ (0 < τ → 2 * Rv < 3 * (τ + 1) * (nv gd nd * 1000000000 ^ sh)) :=
    fun hs => ⟨0, rfl, rfl, by omega, by omega, by rw [Int.zero_mul, Int.zero_mul]; omega, fun _ => small hs, fun q => by omega⟩
  have J : ∀ U : Int, sh + (nd - 1) < n → (U = 0 ∧ n = sh + nd) ∨ (U = g (sh + nd) * 1000000000 ∧ n = sh + nd + 1) → am_w X d 93 (77, [.ref t, .ref td, .int (iI sh), .int (iI ((nd : Int) - 1)), .int (iI ((sh : Int) + ((nd : Int) - 1))), am_U, am_U, am_U, am_U, am_U], [.long (lI U)], h) (wTimes h Rv (nv gd nd) sh) := by
    intro U hsn hU
    have xh := q2.1 (sh + (nd - 1)) hsn
    have U0 : 0 ≤ U ∧ U ≤ 999999999 * 1000000000 := by
      rcases hU with ⟨rfl, -⟩ | ⟨rfl, e⟩
      · omega
      · have := q2.1 (sh + nd) (by omega)
        omega
    have lo := nv_nonneg (g := g) (n := sh + (nd - 1)) (fun j hj => q2.1 j (by omega))
    have eR : Rv = nv g (sh + (nd - 1)) + (U + g (sh + (nd - 1))) * (1000000000 ^ sh * 1000000000 ^ (nd - 1)) := by
      rw [← Int.pow_add, ← q3]
      rcases hU with ⟨rfl, e⟩ | ⟨rfl, e⟩
      · rw [e, show sh + nd = sh + (nd - 1) + 1 by omega]
        show nv g (sh + (nd - 1)) + g (sh + (nd - 1)) * _ = _
        rw [Int.zero_add]
      · rw [e, show sh + nd + 1 = (sh + (nd - 1) + 1) + 1 by omega]
        show nv g (sh + (nd - 1)) + g (sh + (nd - 1)) * _ + g (sh + (nd - 1) + 1) * _ = _
        rw [show sh + (nd - 1) + 1 = sh + nd by omega, show (1000000000 : Int) ^ (sh + nd) = 1000000000 ^ (sh + (nd - 1)) * 1000000000 by rw [← Int.pow_succ, show (sh + (nd - 1)).succ = sh + nd by omega]]
        grind
    rw [Int.pow_add] at lo
    obtain ⟨τ, hτ⟩ : ∃ τ, τ = (U + g (sh + (nd - 1))) / (gd (nd - 1) + 1) := ⟨_, rfl⟩
    have r2 : Rv < (U + g (sh + (nd - 1)) + 1) * (1000000000 ^ sh * 1000000000 ^ (nd - 1)) := by rw [Int.add_mul _ 1]; omega
    obtain ⟨t0, t1, t2⟩ := times_pure pp pq h2 (by omega) d1 d2 (by omega) r2 hτ
    have tB : τ < 1000000000 := by
      rcases Int.lt_or_le τ 1000000000 with q | q
      · exact q
      · have y0 : 0 < nv gd nd * 1000000000 ^ sh := Int.mul_pos (by omega) pp
        have y1 : 1000000000 * (nv gd nd * 1000000000 ^ sh) ≤ τ * (nv gd nd * 1000000000 ^ sh) := Int.mul_le_mul_of_nonneg_right q (by omega)
        rw [Int.pow_succ] at hR
        have e1 : nv gd nd * (1000000000 ^ sh * 1000000000) = 1000000000 * (nv gd nd * 1000000000 ^ sh) := by grind
        have e2 : τ * nv gd nd * 1000000000 ^ sh = τ * (nv gd nd * 1000000000 ^ sh) := by grind
        omega
    refine wr_lstore (ls' := [_, _, _, _, _, _, _, _, _, _]) rfl rfl (Nat.le_of_ble_eq_true rfl) rfl ?_
    refine wr_lload rfl rfl rfl ?_
    refine wr_aload_n rfl rfl rfl ?_
    refine wr_get (ci := 5) (f := 0) rfl rfl rfl (by assumption) rfl ?_
    refine wr_iload rfl rfl rfl ?_
    rw [show (sh : Int) + ((nd : Int) - 1) = ((sh + (nd - 1) : Nat) : Int) by omega]
    refine wr_lald rfl rfl (by assumption) (by omega) (by omega) ?_
    rw [Int.toNat_natCast]
    refine wr_ladd rfl rfl ?_
    refine wr_aload_n rfl rfl rfl ?_
    refine wr_get (ci := 5) (f := 0) rfl rfl rfl (by assumption) rfl ?_
    refine wr_iload_n rfl rfl rfl ?_
    rw [show (nd : Int) - 1 = ((nd - 1 : Nat) : Int) by omega]
    refine wr_lald rfl rfl (by assumption) (by omega) (by omega) ?_
    rw [Int.toNat_natCast]
    refine wr_lconst (z := 1) rfl rfl rfl ?_
    refine wr_ladd rfl rfl ?_
    refine wr_ldivN rfl rfl (by omega) (by omega) (by omega) (by omega) ?_
    rw [← hτ]
    refine wr_lstore (ls' := [_, _, _, _, _, _, _, _, _, _]) rfl rfl (Nat.le_of_ble_eq_true rfl) rfl ?_
    refine wr_lload rfl rfl rfl ?_
    refine wr_lconst (z := 0) rfl rfl rfl ?_
    refine wr_l_le rfl rfl rfl rfl rfl (by omega) (by omega) (fun c103 => ?_) (fun c103 => ?_)
    ·
      have e0 : τ = 0 := by omega
      have hN : U + g (sh + (nd - 1)) < gd (nd - 1) + 1 := by
        have := Int.lt_ediv_add_one_mul_self (U + g (sh + (nd - 1))) (show 0 < gd (nd - 1) + 1 by omega)
        rw [← hτ, e0] at this
        omega
      have hns : n = sh + nd := by
        rcases hU with ⟨-, e⟩ | ⟨e, e'⟩
        · exact e
        · have y1 := q2.2 (by omega)
          rw [e', show sh + nd + 1 - 1 = sh + nd by omega] at y1
          have y2 := q2.1 (sh + nd) (by omega)
          omega
      refine wr_iload_n rfl rfl rfl ?_
      refine wr_istore (ls' := [_, _, _, _, _, _, _, _, _, _]) rfl rfl (Nat.le_of_ble_eq_true rfl) rfl ?_
      refine am_w.wk (ls' := [_, _, _, _, _, am_U, _, am_U, _, _]) ⟨Or.inr rfl, Or.inr rfl, Or.inr rfl, Or.inr rfl, Or.inr rfl, Or.inl rfl, Or.inr rfl, Or.inl rfl, Or.inr rfl, Or.inr rfl, trivial⟩ ?_
      have z := wp_times_cmp (X := X) (d := d) (nd := nd) (sh := sh) (tp := ((nd - 1 : Nat) : Int)) (hi := ((sh + (nd - 1) : Nat) : Int)) (Q := wTimes h Rv (nv gd nd) sh) c_t c_l c_td c_ld hcap hcd (by omega) hnd (fun j hj => q2.1 (sh + j) (by omega)) kd.1 ?_ nd (Nat.le_refl _) (fun j a b => by omega)
      rotate_left
      · intro b hb
        have eS := nv_shift g sh nd
        rw [← hns, q3] at eS
        have ls := nv_nonneg (g := g) (n := sh) (fun j hj => q2.1 j (by omega))
        rw [e0] at t2
        rcases hb with ⟨rfl, hb⟩ | ⟨rfl, hb⟩
        · have y1 : 1000000000 ^ sh * nv gd nd ≤ 1000000000 ^ sh * nv (fun j => g (sh + j)) nd := Int.mul_le_mul_of_nonneg_left hb (by omega)
          rw [Int.mul_comm _ (nv gd nd)] at y1
          refine ⟨1, rfl, rfl, by omega, by omega, by rw [Int.one_mul]; omega, fun q => by omega, fun _ => by omega⟩
        · have y1 : 1000000000 ^ sh * (nv (fun j => g (sh + j)) nd + 1) ≤ 1000000000 ^ sh * nv gd nd := Int.mul_le_mul_of_nonneg_left (by omega) (by omega)
          rw [Int.mul_comm _ (nv gd nd), Int.mul_add] at y1
          refine ⟨0, rfl, rfl, by omega, by omega, by rw [Int.zero_mul, Int.zero_mul]; omega, fun _ => by omega, fun q => by omega⟩
      · rw [show (nd : Int) - 1 = ((nd - 1 : Nat) : Int) by omega] at z
        exact z
    ·
      refine wr_lload rfl rfl rfl ?_
      refine wr_lret rfl rfl ?_
      exact ⟨τ, rfl, rfl, t0, tB, t1, fun q => by omega, fun _ => t2⟩
  refine am_c.of (Nat.le_of_ble_eq_true rfl) ?_
  show am_w _ _ _ (_, [_, _, _, _, _, _, _, _, _, _], _, _) _
  refine wr_aload_n rfl rfl rfl ?_
  refine wr_get (ci := 5) (f := 1) rfl rfl rfl (by assumption) rfl ?_
  refine wr_iconst rfl rfl ?_
  refine wr_isub rfl rfl ?_
  refine wr_istore_n (ls' := [_, _, _, _, _, _, _, _, _, _]) rfl rfl (Nat.le_of_ble_eq_true rfl) rfl ?_
  refine wr_iload_n rfl rfl rfl ?_
  refine wr_iload_n rfl rfl rfl ?_
  refine wr_iadd rfl rfl ?_
  refine wr_istore (ls' := [_, _, _, _, _, _, _, _, _, _]) rfl rfl (Nat.le_of_ble_eq_true rfl) rfl ?_
  refine wr_iload_n rfl rfl rfl ?_
  refine wr_if_lt rfl rfl rfl (by omega) (fun c13 => ?_) (fun c13 => ?_)
  · exfalso; omega
  ·
    refine wr_iload rfl rfl rfl ?_
    refine wr_aload_n rfl rfl rfl ?_
    refine wr_get (ci := 5) (f := 0) rfl rfl rfl (by assumption) rfl ?_
    refine wr_alen rfl rfl (by assumption) (by decide) ?_
    refine wr_icmp_ge rfl rfl rfl (by omega) (by omega) (fun c23 => ?_) (fun c23 => ?_)
    ·
      refine wr_lconst (z := 0) rfl rfl rfl ?_
      refine wr_lret rfl rfl ?_
      exact R0 (by omega)
    ·
      refine wr_iload rfl rfl rfl ?_
      refine wr_aload_n rfl rfl rfl ?_
      refine wr_get (ci := 5) (f := 1) rfl rfl rfl (by assumption) rfl ?_
      refine wr_icmp_lt rfl rfl rfl (by omega) (by omega) (fun c32 => ?_) (fun c32 => ?_)
      ·
        refine wr_iload rfl rfl rfl ?_
        refine wr_iconst rfl rfl ?_
        refine wr_iadd rfl rfl ?_
        refine wr_aload_n rfl rfl rfl ?_
        refine wr_get (ci := 5) (f := 1) rfl rfl rfl (by assumption) rfl ?_
        refine wr_icmp_ge rfl rfl rfl (by omega) (by omega) (fun c45 => ?_) (fun c45 => ?_)
        ·
          refine wr_lconst (z := 0) rfl rfl rfl ?_
          exact J 0 (by omega) (Or.inl ⟨rfl, by omega⟩)
        ·
          refine wr_iload rfl rfl rfl ?_
          refine wr_iconst rfl rfl ?_
          refine wr_iadd rfl rfl ?_
          refine wr_aload_n rfl rfl rfl ?_
          refine wr_get (ci := 5) (f := 0) rfl rfl rfl (by assumption) rfl ?_
          refine wr_alen rfl rfl (by assumption) (by decide) ?_
          refine wr_icmp_ge rfl rfl rfl (by omega) (by omega) (fun c57 => ?_) (fun c57 => ?_)
          · exfalso; omega
          ·
            have xh := q2.1 (sh + nd) (by omega)
            refine wr_aload_n rfl rfl rfl ?_
            refine wr_get (ci := 5) (f := 0) rfl rfl rfl (by assumption) rfl ?_
            refine wr_iload rfl rfl rfl ?_
            refine wr_iconst rfl rfl ?_
            refine wr_iadd rfl rfl ?_
            refine wr_lald rfl rfl (by assumption) (by omega) (by omega) ?_
            rw [show ((sh : Int) + ((nd : Int) - 1) + 1).toNat = sh + nd by omega]
            refine wr_ldc2 (z := 1000000000) rfl rfl rfl (by decide) ?_
            refine wr_lmul rfl rfl ?_
            refine wr_goto rfl rfl ?_
            exact J _ (by omega) (Or.inr ⟨rfl, by omega⟩)
      ·
        refine wr_lconst (z := 0) rfl rfl rfl ?_
        refine wr_lret rfl rfl ?_
        exact R0 (by omega)
end WHU
