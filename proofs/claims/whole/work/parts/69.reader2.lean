/-! THE CLASS'S READER: steps, templates, texts -/
section RDS
variable {X : Nat × (Nat → Int32)} {h0 h h' : am_H} {b t n p op : Nat} {T wt : Nat → Int} {m : Tm} {wr : Int}
theorem wp_rclose {d b0 : Nat} (w : PW h0 b t T n h m p 0 wt op) (o : okS T n) (hp : p < n) (ho : 0 < op) (I : InvT b0 (ptOf m wt op)) (hb : b0 ≤ 120) : am_c X (d + 3) 25 [.ref b] h (itQ h0 b t T n m (pclose T n (ptOf m wt op) p)) := by
  have hn := o.1
  have sk := skp_spec T n (p + 1)
  have sn := sk.2.1 (by omega)
  have zi := sgA_in (p := skp T n (p + 1)) (e := -1) o (by decide)
  have wb : (b0 : Int) ≤ wt (op - 1) ∧ wt (op - 1) < m.od ∧ 6 ≤ m.kd (wt (op - 1)).toNat := I.wtb (op - 1) (by show op - 1 < op; omega)
  have o5 : op ≤ 5 := I.op5
  obtain ⟨j, ej⟩ : ∃ j : Nat, wt (op - 1) = j := ⟨(wt (op - 1)).toNat, by omega⟩
  have eo : (op : Int) - 1 = ((op - 1 : Nat) : Int) := by omega
  simp only [ptOf, pclose, ej, Int.toNat_natCast, PT_kd, PT_fi, PT_se, PT_ta, PT_od, PT_st, PT_wt, PT_op]
  rw [ej, Int.toNat_natCast] at wb
  have rk : rowOK m.kd m.fi m.se j := I.row j (by omega) (by show j < m.od; omega)
  have k10 := rk.2.1
  clear rk
  have num : m.od + oaF m.kd wt op ≤ b0 + 2 * m.st := I.num
  have st12 : m.st ≤ 12 := I.st12
  have hm : m.kd j ≠ 10 → m.od < 144 := fun q => by
    have : oaF m.kd wt op = oaF m.kd wt (op - 1) + 1 := by
      rw [show op = (op - 1) + 1 by omega, oaF, show op - 1 + 1 - 1 = op - 1 by omega, ej, Int.toNat_natCast, if_neg q]
    omega
  obtain ⟨c0, c1, c2⟩ := id w.rd
  have c3 := w.tm.1
  refine am_c.of (Nat.le_of_ble_eq_true rfl) ?_
  show am_w _ _ _ (_, [_, _], _, _) _
  by_cases q1 : m.kd j = 10
  · rw [if_pos (Or.inl q1)]
    refine wr_aload_n rfl rfl rfl ?_
    refine wr_dup rfl rfl ?_
    refine wr_get (ci := 2) (f := 2) rfl rfl rfl (by assumption) rfl ?_
    refine wr_iconst rfl rfl ?_
    refine wr_iadd rfl rfl ?_
    refine wr_putI (ci := 2) (f := 2) (fs' := [_, _, _, _, _, _, _]) rfl rfl rfl (by assumption) rfl rfl rfl (fun h1 e1 => ?_)
    have w := e1 ▸ w.r0 (p + 1) 0 op
    clear e1
    obtain ⟨c0, c1, c2⟩ := id w.rd
    have c3 := w.tm.1
    refine wr_aload_n rfl rfl rfl ?_
    refine wr_dup rfl rfl ?_
    refine wr_get (ci := 2) (f := 6) rfl rfl rfl (by assumption) rfl ?_
    refine wr_iconst rfl rfl ?_
    refine wr_isub rfl rfl ?_
    refine wr_putI (ci := 2) (f := 6) (fs' := [_, _, _, _, _, _, _]) rfl rfl rfl (by assumption) rfl rfl rfl (fun h1 e1 => ?_)
    rw [eo] at e1
    have w := e1 ▸ w.r0 (p + 1) 0 (op - 1)
    clear e1
    obtain ⟨c0, c1, c2⟩ := id w.rd
    have c3 := w.tm.1
    refine wr_aload_n rfl rfl rfl ?_
    refine wr_get (ci := 2) (f := 6) rfl rfl rfl (by assumption) rfl ?_
    refine wr_if_lt rfl rfl rfl (by omega) (fun c24 => by exfalso; omega) (fun c24 => ?_)
    refine wr_aload_n rfl rfl rfl ?_
    refine wr_get (ci := 2) (f := 6) rfl rfl rfl (by assumption) rfl ?_
    refine wr_aload_n rfl rfl rfl ?_
    refine wr_get (ci := 2) (f := 5) rfl rfl rfl (by assumption) rfl ?_
    refine wr_alen rfl rfl (by assumption) (by decide) ?_
    refine wr_icmp_ge rfl rfl rfl (by omega) (by omega) (fun c36 => by exfalso; omega) (fun c36 => ?_)
    refine wr_aload_n rfl rfl rfl ?_
    refine wr_get (ci := 2) (f := 5) rfl rfl rfl (by assumption) rfl ?_
    refine wr_aload_n rfl rfl rfl ?_
    refine wr_get (ci := 2) (f := 6) rfl rfl rfl (by assumption) rfl ?_
    refine wr_iald rfl rfl (by assumption) (by omega) (by omega) ?_
    rw [Int.toNat_natCast, ej]
    refine wr_goto rfl rfl ?_
    refine wr_istore_n (ls' := [_, _]) rfl rfl (Nat.le_of_ble_eq_true rfl) rfl ?_
    refine wr_aload_n rfl rfl rfl ?_
    refine wr_cv0 (k' := 22) (ci := 2) rfl rfl rfl rfl (by assumption) rfl rfl (wp_skip w o (by omega)) (fun r h2 q => ?_)
    obtain ⟨rfl, w⟩ := q
    dsimp only [Option.toList, List.cons_append, List.nil_append]
    obtain ⟨c0, c1, c2⟩ := id w.rd
    have c3 := w.tm.1
    refine wr_aload_n rfl rfl rfl ?_
    refine wr_get (ci := 2) (f := 4) rfl rfl rfl (by assumption) rfl ?_
    refine wr_iload_n rfl rfl rfl ?_
    refine wr_cv1 (k' := 26) (ci := 1) rfl rfl rfl rfl (by assumption) rfl rfl (wp_tkind w.tm (by omega)) (fun r h2 q => ?_)
    obtain ⟨rfl, hh⟩ := q
    rw [hh]
    clear hh h2
    dsimp only [Option.toList, List.cons_append, List.nil_append]
    refine wr_bipush rfl rfl (by decide) ?_
    refine wr_icmp_eq rfl rfl rfl (by omega) (by omega) (fun c67 => ?_) (fun c67 => by exfalso; omega)
    refine wr_aload_n rfl rfl rfl ?_
    refine wr_get (ci := 2) (f := 4) rfl rfl rfl (by assumption) rfl ?_
    refine wr_iload_n rfl rfl rfl ?_
    refine wr_cv1 (k' := 29) (ci := 1) rfl rfl rfl rfl (by assumption) rfl rfl (wp_taim w.tm (by omega)) (fun r h2 q => ?_)
    obtain ⟨rfl, tm2, f2⟩ := q
    have w := w.to tm2 f2
    clear tm2 f2
    dsimp only [Option.toList, List.cons_append, List.nil_append]
    obtain ⟨c0, c1, c2⟩ := id w.rd
    have c3 := w.tm.1
    refine wr_vret rfl rfl ?_
    exact ⟨rfl, w⟩
  by_cases q2 : sgA T n 0 (skp T n (p + 1)) = 58
  · rw [if_neg (by omega)]
    have q3 := (sgA_01 (T := T) (n := n) (p := skp T n (p + 1)) (c := 58) (by decide)).mpr q2
    have q4 := sgA_lt q2 (by decide)
    refine wr_aload_n rfl rfl rfl ?_
    refine wr_dup rfl rfl ?_
    refine wr_get (ci := 2) (f := 2) rfl rfl rfl (by assumption) rfl ?_
    refine wr_iconst rfl rfl ?_
    refine wr_iadd rfl rfl ?_
    refine wr_putI (ci := 2) (f := 2) (fs' := [_, _, _, _, _, _, _]) rfl rfl rfl (by assumption) rfl rfl rfl (fun h1 e1 => ?_)
    have w := e1 ▸ w.r0 (p + 1) 0 op
    clear e1
    obtain ⟨c0, c1, c2⟩ := id w.rd
    have c3 := w.tm.1
    refine wr_aload_n rfl rfl rfl ?_
    refine wr_dup rfl rfl ?_
    refine wr_get (ci := 2) (f := 6) rfl rfl rfl (by assumption) rfl ?_
    refine wr_iconst rfl rfl ?_
    refine wr_isub rfl rfl ?_
    refine wr_putI (ci := 2) (f := 6) (fs' := [_, _, _, _, _, _, _]) rfl rfl rfl (by assumption) rfl rfl rfl (fun h1 e1 => ?_)
    rw [eo] at e1
    have w := e1 ▸ w.r0 (p + 1) 0 (op - 1)
    clear e1
    obtain ⟨c0, c1, c2⟩ := id w.rd
    have c3 := w.tm.1
    refine wr_aload_n rfl rfl rfl ?_
    refine wr_get (ci := 2) (f := 6) rfl rfl rfl (by assumption) rfl ?_
    refine wr_if_lt rfl rfl rfl (by omega) (fun c24 => by exfalso; omega) (fun c24 => ?_)
    refine wr_aload_n rfl rfl rfl ?_
    refine wr_get (ci := 2) (f := 6) rfl rfl rfl (by assumption) rfl ?_
    refine wr_aload_n rfl rfl rfl ?_
    refine wr_get (ci := 2) (f := 5) rfl rfl rfl (by assumption) rfl ?_
    refine wr_alen rfl rfl (by assumption) (by decide) ?_
    refine wr_icmp_ge rfl rfl rfl (by omega) (by omega) (fun c36 => by exfalso; omega) (fun c36 => ?_)
    refine wr_aload_n rfl rfl rfl ?_
    refine wr_get (ci := 2) (f := 5) rfl rfl rfl (by assumption) rfl ?_
    refine wr_aload_n rfl rfl rfl ?_
    refine wr_get (ci := 2) (f := 6) rfl rfl rfl (by assumption) rfl ?_
    refine wr_iald rfl rfl (by assumption) (by omega) (by omega) ?_
    rw [Int.toNat_natCast, ej]
    refine wr_goto rfl rfl ?_
    refine wr_istore_n (ls' := [_, _]) rfl rfl (Nat.le_of_ble_eq_true rfl) rfl ?_
    refine wr_aload_n rfl rfl rfl ?_
    refine wr_cv0 (k' := 22) (ci := 2) rfl rfl rfl rfl (by assumption) rfl rfl (wp_skip w o (by omega)) (fun r h2 q => ?_)
    obtain ⟨rfl, w⟩ := q
    dsimp only [Option.toList, List.cons_append, List.nil_append]
    obtain ⟨c0, c1, c2⟩ := id w.rd
    have c3 := w.tm.1
    refine wr_aload_n rfl rfl rfl ?_
    refine wr_get (ci := 2) (f := 4) rfl rfl rfl (by assumption) rfl ?_
    refine wr_iload_n rfl rfl rfl ?_
    refine wr_cv1 (k' := 26) (ci := 1) rfl rfl rfl rfl (by assumption) rfl rfl (wp_tkind w.tm (by omega)) (fun r h2 q => ?_)
    obtain ⟨rfl, hh⟩ := q
    rw [hh]
    clear hh h2
    dsimp only [Option.toList, List.cons_append, List.nil_append]
    refine wr_bipush rfl rfl (by decide) ?_
    refine wr_icmp_eq rfl rfl rfl (by omega) (by omega) (fun c67 => by exfalso; omega) (fun c67 => ?_)
    refine wr_aload_n rfl rfl rfl ?_
    refine wr_cv0 (k' := 23) (ci := 2) rfl rfl rfl rfl (by assumption) rfl rfl (wp_rsign w hn (by omega)) (fun r h2 q => ?_)
    obtain ⟨rfl, hh⟩ := q
    rw [hh]
    clear hh h2
    dsimp only [Option.toList, List.cons_append, List.nil_append]
    refine wr_bipush rfl rfl (by decide) ?_
    refine wr_icmp_eq rfl rfl rfl (by omega) (by omega) (fun c76 => ?_) (fun c76 => by exfalso; omega)
    refine wr_aload_n rfl rfl rfl ?_
    refine wr_dup rfl rfl ?_
    refine wr_get (ci := 2) (f := 2) rfl rfl rfl (by assumption) rfl ?_
    refine wr_iconst rfl rfl ?_
    refine wr_iadd rfl rfl ?_
    refine wr_putI (ci := 2) (f := 2) (fs' := [_, _, _, _, _, _, _]) rfl rfl rfl (by assumption) rfl rfl rfl (fun h1 e1 => ?_)
    have w := e1 ▸ w.r0 (skp T n (p + 1) + 1) 0 (op - 1)
    clear e1
    obtain ⟨c0, c1, c2⟩ := id w.rd
    have c3 := w.tm.1
    refine wr_aload_n rfl rfl rfl ?_
    refine wr_cv0 (k' := 30) (ci := 2) rfl rfl rfl rfl (by assumption) rfl rfl (wp_ropen w o (by omega) (by omega)) (fun r h2 q => ?_)
    cases hP : popn T n (op - 1) (skp T n (p + 1) + 1) with
    | error z =>
      rw [hP] at q
      obtain ⟨rfl, w⟩ := q
      dsimp only [Option.toList, List.nil_append] at w ⊢
      obtain ⟨c0, c1, c2⟩ := id w.rd
      have c3 := w.tm.1
      refine wr_aload_n rfl rfl rfl ?_
      refine wr_get (ci := 2) (f := 3) rfl rfl rfl (by assumption) rfl ?_
      refine wr_if_ne rfl rfl rfl (by omega) (fun c106 => ?_) (fun c106 => by exfalso; omega)
      refine wr_vret rfl rfl ?_
      exact ⟨rfl, _, _, _, w⟩
    | ok vz =>
      obtain ⟨_, z⟩ := vz
      rw [hP] at q
      obtain ⟨rfl, w⟩ := q
      dsimp only [Option.toList, List.nil_append] at w ⊢
      obtain ⟨c0, c1, c2⟩ := id w.rd
      have c3 := w.tm.1
      refine wr_aload_n rfl rfl rfl ?_
      refine wr_get (ci := 2) (f := 3) rfl rfl rfl (by assumption) rfl ?_
      refine wr_if_ne rfl rfl rfl (by omega) (fun c106 => by exfalso; omega) (fun c106 => ?_)
      refine wr_aload_n rfl rfl rfl ?_
      refine wr_get (ci := 2) (f := 4) rfl rfl rfl (by assumption) rfl ?_
      refine wr_iload_n rfl rfl rfl ?_
      refine wr_cv1 (k' := 31) (ci := 1) rfl rfl rfl rfl (by assumption) rfl rfl (wp_tmark w.tm (by omega)) (fun r h2 q => ?_)
      obtain ⟨rfl, tm2, f2⟩ := q
      have w := w.to tm2 f2
      clear tm2 f2
      dsimp only [Option.toList, List.cons_append, List.nil_append]
      obtain ⟨c0, c1, c2⟩ := id w.rd
      have c3 := w.tm.1
      refine wr_aload_n rfl rfl rfl ?_
      refine wr_aload_n rfl rfl rfl ?_
      refine wr_get (ci := 2) (f := 4) rfl rfl rfl (by assumption) rfl ?_
      refine wr_bipush rfl rfl (by decide) ?_
      refine wr_iconst rfl rfl ?_
      refine wr_iconst rfl rfl ?_
      refine wr_cv3 (k' := 32) (ci := 1) rfl rfl rfl rfl (by assumption) rfl rfl (wp_tadd w.tm (hm q1)) (fun r h2 q => ?_)
      obtain ⟨rfl, tm2, f2⟩ := q
      have w := w.to tm2 f2
      clear tm2 f2
      dsimp only [Option.toList, List.cons_append, List.nil_append]
      obtain ⟨c0, c1, c2⟩ := id w.rd
      have c3 := w.tm.1
      refine wr_cv1 (k' := 33) (ci := 2) rfl rfl rfl rfl (by assumption) rfl rfl (wp_rwait w (by omega)) (fun r h2 q => ?_)
      obtain ⟨rfl, w⟩ := q
      dsimp only [Option.toList, List.cons_append, List.nil_append]
      obtain ⟨c0, c1, c2⟩ := id w.rd
      have c3 := w.tm.1
      refine wr_aload_n rfl rfl rfl ?_
      refine wr_get (ci := 2) (f := 4) rfl rfl rfl (by assumption) rfl ?_
      refine wr_iload_n rfl rfl rfl ?_
      refine wr_cv1 (k' := 29) (ci := 1) rfl rfl rfl rfl (by assumption) rfl rfl (wp_taim w.tm (by omega)) (fun r h2 q => ?_)
      obtain ⟨rfl, tm2, f2⟩ := q
      have w := w.to tm2 f2
      clear tm2 f2
      dsimp only [Option.toList, List.cons_append, List.nil_append]
      obtain ⟨c0, c1, c2⟩ := id w.rd
      have c3 := w.tm.1
      refine wr_vret rfl rfl ?_
      exact ⟨rfl, w⟩
  · rw [if_pos (Or.inr q2)]
    have q3 : ¬ sgA T n (-1) (skp T n (p + 1)) = 58 := fun x => q2 ((sgA_01 (T := T) (n := n) (p := skp T n (p + 1)) (c := 58) (by decide)).mp x)
    refine wr_aload_n rfl rfl rfl ?_
    refine wr_dup rfl rfl ?_
    refine wr_get (ci := 2) (f := 2) rfl rfl rfl (by assumption) rfl ?_
    refine wr_iconst rfl rfl ?_
    refine wr_iadd rfl rfl ?_
    refine wr_putI (ci := 2) (f := 2) (fs' := [_, _, _, _, _, _, _]) rfl rfl rfl (by assumption) rfl rfl rfl (fun h1 e1 => ?_)
    have w := e1 ▸ w.r0 (p + 1) 0 op
    clear e1
    obtain ⟨c0, c1, c2⟩ := id w.rd
    have c3 := w.tm.1
    refine wr_aload_n rfl rfl rfl ?_
    refine wr_dup rfl rfl ?_
    refine wr_get (ci := 2) (f := 6) rfl rfl rfl (by assumption) rfl ?_
    refine wr_iconst rfl rfl ?_
    refine wr_isub rfl rfl ?_
    refine wr_putI (ci := 2) (f := 6) (fs' := [_, _, _, _, _, _, _]) rfl rfl rfl (by assumption) rfl rfl rfl (fun h1 e1 => ?_)
    rw [eo] at e1
    have w := e1 ▸ w.r0 (p + 1) 0 (op - 1)
    clear e1
    obtain ⟨c0, c1, c2⟩ := id w.rd
    have c3 := w.tm.1
    refine wr_aload_n rfl rfl rfl ?_
    refine wr_get (ci := 2) (f := 6) rfl rfl rfl (by assumption) rfl ?_
    refine wr_if_lt rfl rfl rfl (by omega) (fun c24 => by exfalso; omega) (fun c24 => ?_)
    refine wr_aload_n rfl rfl rfl ?_
    refine wr_get (ci := 2) (f := 6) rfl rfl rfl (by assumption) rfl ?_
    refine wr_aload_n rfl rfl rfl ?_
    refine wr_get (ci := 2) (f := 5) rfl rfl rfl (by assumption) rfl ?_
    refine wr_alen rfl rfl (by assumption) (by decide) ?_
    refine wr_icmp_ge rfl rfl rfl (by omega) (by omega) (fun c36 => by exfalso; omega) (fun c36 => ?_)
    refine wr_aload_n rfl rfl rfl ?_
    refine wr_get (ci := 2) (f := 5) rfl rfl rfl (by assumption) rfl ?_
    refine wr_aload_n rfl rfl rfl ?_
    refine wr_get (ci := 2) (f := 6) rfl rfl rfl (by assumption) rfl ?_
    refine wr_iald rfl rfl (by assumption) (by omega) (by omega) ?_
    rw [Int.toNat_natCast, ej]
    refine wr_goto rfl rfl ?_
    refine wr_istore_n (ls' := [_, _]) rfl rfl (Nat.le_of_ble_eq_true rfl) rfl ?_
    refine wr_aload_n rfl rfl rfl ?_
    refine wr_cv0 (k' := 22) (ci := 2) rfl rfl rfl rfl (by assumption) rfl rfl (wp_skip w o (by omega)) (fun r h2 q => ?_)
    obtain ⟨rfl, w⟩ := q
    dsimp only [Option.toList, List.cons_append, List.nil_append]
    obtain ⟨c0, c1, c2⟩ := id w.rd
    have c3 := w.tm.1
    refine wr_aload_n rfl rfl rfl ?_
    refine wr_get (ci := 2) (f := 4) rfl rfl rfl (by assumption) rfl ?_
    refine wr_iload_n rfl rfl rfl ?_
    refine wr_cv1 (k' := 26) (ci := 1) rfl rfl rfl rfl (by assumption) rfl rfl (wp_tkind w.tm (by omega)) (fun r h2 q => ?_)
    obtain ⟨rfl, hh⟩ := q
    rw [hh]
    clear hh h2
    dsimp only [Option.toList, List.cons_append, List.nil_append]
    refine wr_bipush rfl rfl (by decide) ?_
    refine wr_icmp_eq rfl rfl rfl (by omega) (by omega) (fun c67 => by exfalso; omega) (fun c67 => ?_)
    refine wr_aload_n rfl rfl rfl ?_
    refine wr_cv0 (k' := 23) (ci := 2) rfl rfl rfl rfl (by assumption) rfl rfl (wp_rsign w hn (by omega)) (fun r h2 q => ?_)
    obtain ⟨rfl, hh⟩ := q
    rw [hh]
    clear hh h2
    dsimp only [Option.toList, List.cons_append, List.nil_append]
    refine wr_bipush rfl rfl (by decide) ?_
    refine wr_icmp_eq rfl rfl rfl (by omega) (by omega) (fun c76 => by exfalso; omega) (fun c76 => ?_)
    refine wr_aload_n rfl rfl rfl ?_
    refine wr_get (ci := 2) (f := 4) rfl rfl rfl (by assumption) rfl ?_
    refine wr_iload_n rfl rfl rfl ?_
    refine wr_cv1 (k' := 29) (ci := 1) rfl rfl rfl rfl (by assumption) rfl rfl (wp_taim w.tm (by omega)) (fun r h2 q => ?_)
    obtain ⟨rfl, tm2, f2⟩ := q
    have w := w.to tm2 f2
    clear tm2 f2
    dsimp only [Option.toList, List.cons_append, List.nil_append]
    obtain ⟨c0, c1, c2⟩ := id w.rd
    have c3 := w.tm.1
    refine wr_vret rfl rfl ?_
    exact ⟨rfl, w⟩
theorem wp_rstep {d : Nat} (w : PW h0 b t T n h m p 0 wt op) (o : okS T n) (hp : p ≤ n) (ho : op ≤ 5) (hm : m.st < 12 → m.od < 144) (hs : m.st ≤ 12) : am_c X (d + 4) 35 [.ref b, .int (iI (sgA T n (-1) p))] h (itQ h0 b t T n m (pstep T n (ptOf m wt op) (sgA T n 0 p) p)) := by
  have hn := o.1
  have zi := sgA_in (p := p) (e := -1) o (by decide)
  have kc := kindB_cases (sgA T n 0 p)
  have kl : kindB (sgA T n 0 p) ≠ -1 → p < n := fun x => Decidable.byContradiction fun y => by rw [sgA_out y] at x; exact x rfl
  have bs := b2_in (12 ≤ m.st)
  unfold pstep
  obtain ⟨k, ek⟩ : ∃ k, k = kindB (sgA T n 0 p) := ⟨_, rfl⟩
  rw [← ek] at kc kl ⊢
  have kin : k = -1 ∨ k = 1 ∨ k = 2 ∨ k = 3 ∨ k = 4 ∨ k = 5 ∨ k = 6 := by omega
  clear kc
  have kin2 : -1 ≤ k ∧ k ≤ 6 := by omega
  obtain ⟨c0, c1, c2⟩ := id w.rd
  have c3 := w.tm.1
  refine am_c.of (Nat.le_of_ble_eq_true rfl) ?_
  show am_w _ _ _ (_, [_, _, _, _, _], _, _) _
  show am_w _ _ _ _ (itQ h0 b t T n m (if k = -1 ∨ 12 ≤ m.st then .error p else if k = 6 then pchoice T n (ptOf m wt op) (p + 1) else match pargs T n k (p + 1) with | .error r => .error r | .ok (a, r) => .ok (((ptOf m wt op).step k a.1 a.2), r)))
  by_cases q : k = -1
  · rw [if_pos (Or.inl q)]
    clear kin
    refine wr_iload_n rfl rfl rfl ?_
    refine wr_cs1 (k' := 36) rfl rfl rfl rfl rfl (wp_kindBy (by omega)) (fun r h2 q => ?_)
    obtain ⟨rfl, hh⟩ := q
    rw [hh]
    clear hh h2
    dsimp only [Option.toList, List.cons_append, List.nil_append]
    rw [kindB_01, ← ek]
    refine wr_istore_n (ls' := [_, _, _, _, _]) rfl rfl (Nat.le_of_ble_eq_true rfl) rfl ?_
    refine wr_iload_n rfl rfl rfl ?_
    refine wr_iconst rfl rfl ?_
    refine wr_icmp_eq rfl rfl rfl (by omega) (by omega) (fun c7 => ?_) (fun c7 => by exfalso; omega)
    refine wr_aload_n rfl rfl rfl ?_
    refine wr_iconst rfl rfl ?_
    refine wr_putZ (ci := 2) (f := 3) (fs' := [_, _, _, _, _, _, _]) rfl rfl rfl (by assumption) rfl rfl (by decide) rfl (fun h1 e1 => ?_)
    have w := e1 ▸ w.r0 p 1 op
    clear e1
    obtain ⟨c0, c1, c2⟩ := id w.rd
    have c3 := w.tm.1
    refine wr_vret rfl rfl ?_
    exact ⟨rfl, _, _, _, w⟩
  have kl := kl q
  by_cases q12 : 12 ≤ m.st
  · rw [if_pos (Or.inr q12)]
    rw [b2_t q12] at bs
    clear kin
    have e12 : b2 (12 ≤ m.st) = 1 := b2_t q12
    refine wr_iload_n rfl rfl rfl ?_
    refine wr_cs1 (k' := 36) rfl rfl rfl rfl rfl (wp_kindBy (by omega)) (fun r h2 q => ?_)
    obtain ⟨rfl, hh⟩ := q
    rw [hh]
    clear hh h2
    dsimp only [Option.toList, List.cons_append, List.nil_append]
    rw [kindB_01, ← ek]
    refine wr_istore_n (ls' := [_, _, _, _, _]) rfl rfl (Nat.le_of_ble_eq_true rfl) rfl ?_
    refine wr_iload_n rfl rfl rfl ?_
    refine wr_iconst rfl rfl ?_
    refine wr_icmp_eq rfl rfl rfl (by omega) (by omega) (fun c7 => by exfalso; omega) (fun c7 => ?_)
    refine wr_aload_n rfl rfl rfl ?_
    refine wr_get (ci := 2) (f := 4) rfl rfl rfl (by assumption) rfl ?_
    refine wr_cv0 (k' := 37) (ci := 1) rfl rfl rfl rfl (by assumption) rfl rfl (wp_tall w.tm (by omega)) (fun r h2 q => ?_)
    obtain ⟨rfl, hh⟩ := q
    rw [hh]
    clear hh h2
    dsimp only [Option.toList, List.cons_append, List.nil_append]
    refine wr_if_eq rfl rfl rfl (by omega) (fun c17 => by exfalso; omega) (fun c17 => ?_)
    refine wr_aload_n rfl rfl rfl ?_
    refine wr_iconst rfl rfl ?_
    refine wr_putZ (ci := 2) (f := 3) (fs' := [_, _, _, _, _, _, _]) rfl rfl rfl (by assumption) rfl rfl (by decide) rfl (fun h1 e1 => ?_)
    have w := e1 ▸ w.r0 p 1 op
    clear e1
    obtain ⟨c0, c1, c2⟩ := id w.rd
    have c3 := w.tm.1
    refine wr_vret rfl rfl ?_
    exact ⟨rfl, _, _, _, w⟩
  rw [if_neg (by omega)]
  have e12 : b2 (12 ≤ m.st) = 0 := b2_f q12
  have hm := hm (by omega)
  by_cases q6 : k = 6
  · rw [if_pos q6]
    clear kin
    refine wr_iload_n rfl rfl rfl ?_
    refine wr_cs1 (k' := 36) rfl rfl rfl rfl rfl (wp_kindBy (by omega)) (fun r h2 q => ?_)
    obtain ⟨rfl, hh⟩ := q
    rw [hh]
    clear hh h2
    dsimp only [Option.toList, List.cons_append, List.nil_append]
    rw [kindB_01, ← ek]
    refine wr_istore_n (ls' := [_, _, _, _, _]) rfl rfl (Nat.le_of_ble_eq_true rfl) rfl ?_
    refine wr_iload_n rfl rfl rfl ?_
    refine wr_iconst rfl rfl ?_
    refine wr_icmp_eq rfl rfl rfl (by omega) (by omega) (fun c7 => by exfalso; omega) (fun c7 => ?_)
    refine wr_aload_n rfl rfl rfl ?_
    refine wr_get (ci := 2) (f := 4) rfl rfl rfl (by assumption) rfl ?_
    refine wr_cv0 (k' := 37) (ci := 1) rfl rfl rfl rfl (by assumption) rfl rfl (wp_tall w.tm (by omega)) (fun r h2 q => ?_)
    obtain ⟨rfl, hh⟩ := q
    rw [hh]
    clear hh h2
    dsimp only [Option.toList, List.cons_append, List.nil_append]
    refine wr_if_eq rfl rfl rfl (by omega) (fun c17 => ?_) (fun c17 => by exfalso; omega)
    refine wr_aload_n rfl rfl rfl ?_
    refine wr_dup rfl rfl ?_
    refine wr_get (ci := 2) (f := 2) rfl rfl rfl (by assumption) rfl ?_
    refine wr_iconst rfl rfl ?_
    refine wr_iadd rfl rfl ?_
    refine wr_putI (ci := 2) (f := 2) (fs' := [_, _, _, _, _, _, _]) rfl rfl rfl (by assumption) rfl rfl rfl (fun h1 e1 => ?_)
    have w := e1 ▸ w.r0 (p + 1) 0 op
    clear e1
    obtain ⟨c0, c1, c2⟩ := id w.rd
    have c3 := w.tm.1
    refine wr_iload_n rfl rfl rfl ?_
    refine wr_bipush rfl rfl (by decide) ?_
    refine wr_icmp_ne rfl rfl rfl (by omega) (by omega) (fun c39 => by exfalso; omega) (fun c39 => ?_)
    refine wr_aload_n rfl rfl rfl ?_
    refine wr_cv0 (k' := 38) (ci := 2) rfl rfl rfl rfl (by assumption) rfl rfl (wp_rchoice w o (by omega) ho hm) (fun r h2 q => ?_)
    obtain ⟨rfl, w⟩ := q
    dsimp only [Option.toList, List.nil_append]
    refine wr_vret rfl rfl ?_
    exact ⟨rfl, w⟩
  rw [if_neg q6]
  -- what the letter's numbers tell, then addStep
  have K : ∀ (a : Int × Int) (r : Nat) (h : am_H), PW h0 b t T n h m r 0 wt op → am_w X (d + 3) 35 (111, [.ref b, .int (iI (sgA T n (-1) p)), .int (iI k), .int (iI a.1), .int (iI a.2)], [], h) (itQ h0 b t T n m (.ok (((ptOf m wt op).step k a.1 a.2), r))) := by
    intro a r h w
    obtain ⟨c0, c1, c2⟩ := id w.rd
    have c3 := w.tm.1
    refine wr_aload_n rfl rfl rfl ?_
    refine wr_get (ci := 2) (f := 3) rfl rfl rfl (by assumption) rfl ?_
    refine wr_if_ne rfl rfl rfl (by omega) (fun c115 => by exfalso; omega) (fun c115 => ?_)
    refine wr_aload_n rfl rfl rfl ?_
    refine wr_get (ci := 2) (f := 4) rfl rfl rfl (by assumption) rfl ?_
    refine wr_iload_n rfl rfl rfl ?_
    refine wr_iload_n rfl rfl rfl ?_
    refine wr_iload rfl rfl rfl ?_
    refine wr_cv3 (k' := 42) (ci := 1) rfl rfl rfl rfl (by assumption) rfl rfl (wp_tstep w.tm hm) (fun r h2 q => ?_)
    obtain ⟨rfl, tm2, f2⟩ := q
    have w := w.to tm2 f2
    clear tm2 f2
    dsimp only [Option.toList, List.cons_append, List.nil_append]
    obtain ⟨c0, c1, c2⟩ := id w.rd
    have c3 := w.tm.1
    refine wr_pop_i rfl rfl ?_
    refine wr_vret rfl rfl ?_
    exact ⟨rfl, w⟩
  have B : ∀ (v1 v2 : Int) (r : Nat) (h : am_H), PW h0 b t T n h m r 1 wt op → am_w X (d + 3) 35 (111, [.ref b, .int (iI (sgA T n (-1) p)), .int (iI k), .int (iI v1), .int (iI v2)], [], h) (itQ h0 b t T n m (.error r)) := by
    intro v1 v2 r h w
    obtain ⟨c0, c1, c2⟩ := id w.rd
    have c3 := w.tm.1
    refine wr_aload_n rfl rfl rfl ?_
    refine wr_get (ci := 2) (f := 3) rfl rfl rfl (by assumption) rfl ?_
    refine wr_if_ne rfl rfl rfl (by omega) (fun c115 => ?_) (fun c115 => by exfalso; omega)
    refine wr_vret rfl rfl ?_
    exact ⟨rfl, _, _, _, w⟩
  unfold pargs
  by_cases q5 : k = 5
  · rw [if_pos q5]
    clear kin
    refine wr_iload_n rfl rfl rfl ?_
    refine wr_cs1 (k' := 36) rfl rfl rfl rfl rfl (wp_kindBy (by omega)) (fun r h2 q => ?_)
    obtain ⟨rfl, hh⟩ := q
    rw [hh]
    clear hh h2
    dsimp only [Option.toList, List.cons_append, List.nil_append]
    rw [kindB_01, ← ek]
    refine wr_istore_n (ls' := [_, _, _, _, _]) rfl rfl (Nat.le_of_ble_eq_true rfl) rfl ?_
    refine wr_iload_n rfl rfl rfl ?_
    refine wr_iconst rfl rfl ?_
    refine wr_icmp_eq rfl rfl rfl (by omega) (by omega) (fun c7 => by exfalso; omega) (fun c7 => ?_)
    refine wr_aload_n rfl rfl rfl ?_
    refine wr_get (ci := 2) (f := 4) rfl rfl rfl (by assumption) rfl ?_
    refine wr_cv0 (k' := 37) (ci := 1) rfl rfl rfl rfl (by assumption) rfl rfl (wp_tall w.tm (by omega)) (fun r h2 q => ?_)
    obtain ⟨rfl, hh⟩ := q
    rw [hh]
    clear hh h2
    dsimp only [Option.toList, List.cons_append, List.nil_append]
    refine wr_if_eq rfl rfl rfl (by omega) (fun c17 => ?_) (fun c17 => by exfalso; omega)
    refine wr_aload_n rfl rfl rfl ?_
    refine wr_dup rfl rfl ?_
    refine wr_get (ci := 2) (f := 2) rfl rfl rfl (by assumption) rfl ?_
    refine wr_iconst rfl rfl ?_
    refine wr_iadd rfl rfl ?_
    refine wr_putI (ci := 2) (f := 2) (fs' := [_, _, _, _, _, _, _]) rfl rfl rfl (by assumption) rfl rfl rfl (fun h1 e1 => ?_)
    have w := e1 ▸ w.r0 (p + 1) 0 op
    clear e1
    obtain ⟨c0, c1, c2⟩ := id w.rd
    have c3 := w.tm.1
    refine wr_iload_n rfl rfl rfl ?_
    refine wr_bipush rfl rfl (by decide) ?_
    refine wr_icmp_ne rfl rfl rfl (by omega) (by omega) (fun c39 => ?_) (fun c39 => by exfalso; omega)
    refine wr_iload_n rfl rfl rfl ?_
    refine wr_iconst rfl rfl ?_
    refine wr_icmp_ne rfl rfl rfl (by omega) (by omega) (fun c49 => by exfalso; omega) (fun c49 => ?_)
    refine wr_iconst rfl rfl ?_
    refine wr_goto rfl rfl ?_
    refine wr_istore_n (ls' := [_, _, _, _, _]) rfl rfl (Nat.le_of_ble_eq_true rfl) rfl ?_
    refine wr_iconst rfl rfl ?_
    refine wr_istore (ls' := [_, _, _, _, _]) rfl rfl (Nat.le_of_ble_eq_true rfl) rfl ?_
    refine wr_iload_n rfl rfl rfl ?_
    refine wr_iconst rfl rfl ?_
    refine wr_icmp_ne rfl rfl rfl (by omega) (by omega) (fun c76 => ?_) (fun c76 => by exfalso; omega)
    refine wr_iload_n rfl rfl rfl ?_
    refine wr_iconst rfl rfl ?_
    refine wr_icmp_eq rfl rfl rfl (by omega) (by omega) (fun c97 => by exfalso; omega) (fun c97 => ?_)
    refine wr_iload_n rfl rfl rfl ?_
    refine wr_iconst rfl rfl ?_
    refine wr_icmp_ne rfl rfl rfl (by omega) (by omega) (fun c102 => ?_) (fun c102 => by exfalso; omega)
    exact K (0, 0) _ _ w
  rw [if_neg q5]
  by_cases q4 : k = 4
  · simp only [if_pos q4]
    clear kin
    refine wr_iload_n rfl rfl rfl ?_
    refine wr_cs1 (k' := 36) rfl rfl rfl rfl rfl (wp_kindBy (by omega)) (fun r h2 q => ?_)
    obtain ⟨rfl, hh⟩ := q
    rw [hh]
    clear hh h2
    dsimp only [Option.toList, List.cons_append, List.nil_append]
    rw [kindB_01, ← ek]
    refine wr_istore_n (ls' := [_, _, _, _, _]) rfl rfl (Nat.le_of_ble_eq_true rfl) rfl ?_
    refine wr_iload_n rfl rfl rfl ?_
    refine wr_iconst rfl rfl ?_
    refine wr_icmp_eq rfl rfl rfl (by omega) (by omega) (fun c7 => by exfalso; omega) (fun c7 => ?_)
    refine wr_aload_n rfl rfl rfl ?_
    refine wr_get (ci := 2) (f := 4) rfl rfl rfl (by assumption) rfl ?_
    refine wr_cv0 (k' := 37) (ci := 1) rfl rfl rfl rfl (by assumption) rfl rfl (wp_tall w.tm (by omega)) (fun r h2 q => ?_)
    obtain ⟨rfl, hh⟩ := q
    rw [hh]
    clear hh h2
    dsimp only [Option.toList, List.cons_append, List.nil_append]
    refine wr_if_eq rfl rfl rfl (by omega) (fun c17 => ?_) (fun c17 => by exfalso; omega)
    refine wr_aload_n rfl rfl rfl ?_
    refine wr_dup rfl rfl ?_
    refine wr_get (ci := 2) (f := 2) rfl rfl rfl (by assumption) rfl ?_
    refine wr_iconst rfl rfl ?_
    refine wr_iadd rfl rfl ?_
    refine wr_putI (ci := 2) (f := 2) (fs' := [_, _, _, _, _, _, _]) rfl rfl rfl (by assumption) rfl rfl rfl (fun h1 e1 => ?_)
    have w := e1 ▸ w.r0 (p + 1) 0 op
    clear e1
    obtain ⟨c0, c1, c2⟩ := id w.rd
    have c3 := w.tm.1
    refine wr_iload_n rfl rfl rfl ?_
    refine wr_bipush rfl rfl (by decide) ?_
    refine wr_icmp_ne rfl rfl rfl (by omega) (by omega) (fun c39 => ?_) (fun c39 => by exfalso; omega)
    refine wr_iload_n rfl rfl rfl ?_
    refine wr_iconst rfl rfl ?_
    refine wr_icmp_ne rfl rfl rfl (by omega) (by omega) (fun c49 => ?_) (fun c49 => by exfalso; omega)
    refine wr_aload_n rfl rfl rfl ?_
    refine wr_iload_n rfl rfl rfl ?_
    refine wr_iconst rfl rfl ?_
    refine wr_icmp_ne rfl rfl rfl (by omega) (by omega) (fun c59 => by exfalso; omega) (fun c59 => ?_)
    refine wr_iconst rfl rfl ?_
    refine wr_goto rfl rfl ?_
    refine wr_cv1 (k' := 40) (ci := 2) rfl rfl rfl rfl (by assumption) rfl rfl (wp_rnum w o (by omega) (Or.inr rfl)) (fun r h2 q => ?_)
    cases hP : pnum T n 1 (p + 1) with
    | error z =>
      rw [hP] at q
      obtain ⟨⟨v, rfl, v1, v2⟩, w⟩ := q
      dsimp only [Option.toList, List.cons_append, List.nil_append]
      obtain ⟨c0, c1, c2⟩ := id w.rd
      have c3 := w.tm.1
      refine wr_istore_n (ls' := [_, _, _, _, _]) rfl rfl (Nat.le_of_ble_eq_true rfl) rfl ?_
      refine wr_iconst rfl rfl ?_
      refine wr_istore (ls' := [_, _, _, _, _]) rfl rfl (Nat.le_of_ble_eq_true rfl) rfl ?_
      refine wr_iload_n rfl rfl rfl ?_
      refine wr_iconst rfl rfl ?_
      refine wr_icmp_ne rfl rfl rfl (by omega) (by omega) (fun c76 => by exfalso; omega) (fun c76 => ?_)
      refine wr_aload_n rfl rfl rfl ?_
      refine wr_bipush rfl rfl (by decide) ?_
      refine wr_cv1 (k' := 21) (ci := 2) rfl rfl rfl rfl (by assumption) rfl rfl (wp_rexp1 w) (fun r h2 q => ?_)
      obtain ⟨rfl, w⟩ := q
      dsimp only [Option.toList, List.cons_append, List.nil_append]
      obtain ⟨c0, c1, c2⟩ := id w.rd
      have c3 := w.tm.1
      refine wr_aload_n rfl rfl rfl ?_
      refine wr_iconst rfl rfl ?_
      refine wr_cv1 (k' := 40) (ci := 2) rfl rfl rfl rfl (by assumption) rfl rfl (wp_rnum1 w) (fun r h2 q => ?_)
      obtain ⟨rfl, w⟩ := q
      dsimp only [Option.toList, List.cons_append, List.nil_append]
      obtain ⟨c0, c1, c2⟩ := id w.rd
      have c3 := w.tm.1
      refine wr_istore (ls' := [_, _, _, _, _]) rfl rfl (Nat.le_of_ble_eq_true rfl) rfl ?_
      refine wr_goto rfl rfl ?_
      exact B _ _ _ _ w
    | ok vz =>
      obtain ⟨v, z⟩ := vz
      rw [hP] at q
      have hb := pnum_ok (by omega) hP
      obtain ⟨rfl, w⟩ := q
      dsimp only [Option.toList, List.cons_append, List.nil_append]
      obtain ⟨c0, c1, c2⟩ := id w.rd
      have c3 := w.tm.1
      refine wr_istore_n (ls' := [_, _, _, _, _]) rfl rfl (Nat.le_of_ble_eq_true rfl) rfl ?_
      refine wr_iconst rfl rfl ?_
      refine wr_istore (ls' := [_, _, _, _, _]) rfl rfl (Nat.le_of_ble_eq_true rfl) rfl ?_
      refine wr_iload_n rfl rfl rfl ?_
      refine wr_iconst rfl rfl ?_
      refine wr_icmp_ne rfl rfl rfl (by omega) (by omega) (fun c76 => by exfalso; omega) (fun c76 => ?_)
      refine wr_aload_n rfl rfl rfl ?_
      refine wr_bipush rfl rfl (by decide) ?_
      refine wr_cv1 (k' := 21) (ci := 2) rfl rfl rfl rfl (by assumption) rfl rfl (wp_rexp w o (by omega) (by decide)) (fun r h2 q => ?_)
      cases hE : pexp T n 47 z with
      | error y =>
        rw [hE] at q
        obtain ⟨rfl, w⟩ := q
        dsimp only [Option.toList, List.nil_append] at w ⊢
        obtain ⟨c0, c1, c2⟩ := id w.rd
        have c3 := w.tm.1
        refine wr_aload_n rfl rfl rfl ?_
        refine wr_iconst rfl rfl ?_
        refine wr_cv1 (k' := 40) (ci := 2) rfl rfl rfl rfl (by assumption) rfl rfl (wp_rnum1 w) (fun r h2 q => ?_)
        obtain ⟨rfl, w⟩ := q
        dsimp only [Option.toList, List.cons_append, List.nil_append]
        obtain ⟨c0, c1, c2⟩ := id w.rd
        have c3 := w.tm.1
        refine wr_istore (ls' := [_, _, _, _, _]) rfl rfl (Nat.le_of_ble_eq_true rfl) rfl ?_
        refine wr_goto rfl rfl ?_
        exact B _ _ _ _ w
      | ok vz =>
        obtain ⟨_, y⟩ := vz
        rw [hE] at q
        have hb2 := pexp_ok (by omega) (by decide) hE
        obtain ⟨rfl, w⟩ := q
        dsimp only [Option.toList, List.nil_append] at w ⊢
        obtain ⟨c0, c1, c2⟩ := id w.rd
        have c3 := w.tm.1
        refine wr_aload_n rfl rfl rfl ?_
        refine wr_iconst rfl rfl ?_
        refine wr_cv1 (k' := 40) (ci := 2) rfl rfl rfl rfl (by assumption) rfl rfl (wp_rnum w o (by omega) (Or.inr rfl)) (fun r h2 q => ?_)
        cases hN : pnum T n 1 y with
        | error x =>
          rw [hN] at q
          obtain ⟨⟨v', rfl, v1, v2⟩, w⟩ := q
          dsimp only [Option.toList, List.cons_append, List.nil_append]
          refine wr_istore (ls' := [_, _, _, _, _]) rfl rfl (Nat.le_of_ble_eq_true rfl) rfl ?_
          refine wr_goto rfl rfl ?_
          exact B _ _ _ _ w
        | ok vz =>
          obtain ⟨v', x⟩ := vz
          rw [hN] at q
          obtain ⟨rfl, w⟩ := q
          dsimp only [Option.toList, List.cons_append, List.nil_append]
          refine wr_istore (ls' := [_, _, _, _, _]) rfl rfl (Nat.le_of_ble_eq_true rfl) rfl ?_
          refine wr_goto rfl rfl ?_
          exact K (v, v') _ _ w
  rw [if_neg q4]
  have kin3 : k = 1 ∨ k = 2 ∨ k = 3 := by omega
  clear kin
  refine wr_iload_n rfl rfl rfl ?_
  refine wr_cs1 (k' := 36) rfl rfl rfl rfl rfl (wp_kindBy (by omega)) (fun r h2 q => ?_)
  obtain ⟨rfl, hh⟩ := q
  rw [hh]
  clear hh h2
  dsimp only [Option.toList, List.cons_append, List.nil_append]
  rw [kindB_01, ← ek]
  refine wr_istore_n (ls' := [_, _, _, _, _]) rfl rfl (Nat.le_of_ble_eq_true rfl) rfl ?_
  refine wr_iload_n rfl rfl rfl ?_
  refine wr_iconst rfl rfl ?_
  refine wr_icmp_eq rfl rfl rfl (by omega) (by omega) (fun c7 => by exfalso; omega) (fun c7 => ?_)
  refine wr_aload_n rfl rfl rfl ?_
  refine wr_get (ci := 2) (f := 4) rfl rfl rfl (by assumption) rfl ?_
  refine wr_cv0 (k' := 37) (ci := 1) rfl rfl rfl rfl (by assumption) rfl rfl (wp_tall w.tm (by omega)) (fun r h2 q => ?_)
  obtain ⟨rfl, hh⟩ := q
  rw [hh]
  clear hh h2
  dsimp only [Option.toList, List.cons_append, List.nil_append]
  refine wr_if_eq rfl rfl rfl (by omega) (fun c17 => ?_) (fun c17 => by exfalso; omega)
  refine wr_aload_n rfl rfl rfl ?_
  refine wr_dup rfl rfl ?_
  refine wr_get (ci := 2) (f := 2) rfl rfl rfl (by assumption) rfl ?_
  refine wr_iconst rfl rfl ?_
  refine wr_iadd rfl rfl ?_
  refine wr_putI (ci := 2) (f := 2) (fs' := [_, _, _, _, _, _, _]) rfl rfl rfl (by assumption) rfl rfl rfl (fun h1 e1 => ?_)
  have w := e1 ▸ w.r0 (p + 1) 0 op
  clear e1
  obtain ⟨c0, c1, c2⟩ := id w.rd
  have c3 := w.tm.1
  refine wr_iload_n rfl rfl rfl ?_
  refine wr_bipush rfl rfl (by decide) ?_
  refine wr_icmp_ne rfl rfl rfl (by omega) (by omega) (fun c39 => ?_) (fun c39 => by exfalso; omega)
  refine wr_iload_n rfl rfl rfl ?_
  refine wr_iconst rfl rfl ?_
  refine wr_icmp_ne rfl rfl rfl (by omega) (by omega) (fun c49 => ?_) (fun c49 => by exfalso; omega)
  refine wr_aload_n rfl rfl rfl ?_
  refine wr_iload_n rfl rfl rfl ?_
  refine wr_iconst rfl rfl ?_
  refine wr_icmp_ne rfl rfl rfl (by omega) (by omega) (fun c59 => ?_) (fun c59 => by exfalso; omega)
  refine wr_iconst rfl rfl ?_
  refine wr_cv1 (k' := 40) (ci := 2) rfl rfl rfl rfl (by assumption) rfl rfl (wp_rnum w o (by omega) (Or.inl rfl)) (fun r h2 q => ?_)
  by_cases q13 : k = 1 ∨ k = 3
  · simp only [if_neg q4, if_pos q13]
    cases hP : pnum T n 0 (p + 1) with
    | error z =>
      rw [hP] at q
      obtain ⟨⟨v, rfl, v1, v2⟩, w⟩ := q
      dsimp only [Option.toList, List.cons_append, List.nil_append]
      obtain ⟨c0, c1, c2⟩ := id w.rd
      have c3 := w.tm.1
      rcases q13 with q13 | q13
      ·
        refine wr_istore_n (ls' := [_, _, _, _, _]) rfl rfl (Nat.le_of_ble_eq_true rfl) rfl ?_
        refine wr_iconst rfl rfl ?_
        refine wr_istore (ls' := [_, _, _, _, _]) rfl rfl (Nat.le_of_ble_eq_true rfl) rfl ?_
        refine wr_iload_n rfl rfl rfl ?_
        refine wr_iconst rfl rfl ?_
        refine wr_icmp_ne rfl rfl rfl (by omega) (by omega) (fun c76 => ?_) (fun c76 => by exfalso; omega)
        refine wr_iload_n rfl rfl rfl ?_
        refine wr_iconst rfl rfl ?_
        refine wr_icmp_eq rfl rfl rfl (by omega) (by omega) (fun c97 => ?_) (fun c97 => by exfalso; omega)
        refine wr_aload_n rfl rfl rfl ?_
        refine wr_cv0 (k' := 43) (ci := 2) rfl rfl rfl rfl (by assumption) rfl rfl (wp_rsnum1 w) (fun r h2 q => ?_)
        obtain ⟨rfl, w⟩ := q
        dsimp only [Option.toList, List.cons_append, List.nil_append]
        obtain ⟨c0, c1, c2⟩ := id w.rd
        have c3 := w.tm.1
        refine wr_istore (ls' := [_, _, _, _, _]) rfl rfl (Nat.le_of_ble_eq_true rfl) rfl ?_
        exact B _ _ _ _ w
      ·
        refine wr_istore_n (ls' := [_, _, _, _, _]) rfl rfl (Nat.le_of_ble_eq_true rfl) rfl ?_
        refine wr_iconst rfl rfl ?_
        refine wr_istore (ls' := [_, _, _, _, _]) rfl rfl (Nat.le_of_ble_eq_true rfl) rfl ?_
        refine wr_iload_n rfl rfl rfl ?_
        refine wr_iconst rfl rfl ?_
        refine wr_icmp_ne rfl rfl rfl (by omega) (by omega) (fun c76 => ?_) (fun c76 => by exfalso; omega)
        refine wr_iload_n rfl rfl rfl ?_
        refine wr_iconst rfl rfl ?_
        refine wr_icmp_eq rfl rfl rfl (by omega) (by omega) (fun c97 => by exfalso; omega) (fun c97 => ?_)
        refine wr_iload_n rfl rfl rfl ?_
        refine wr_iconst rfl rfl ?_
        refine wr_icmp_ne rfl rfl rfl (by omega) (by omega) (fun c102 => by exfalso; omega) (fun c102 => ?_)
        refine wr_aload_n rfl rfl rfl ?_
        refine wr_cv0 (k' := 43) (ci := 2) rfl rfl rfl rfl (by assumption) rfl rfl (wp_rsnum1 w) (fun r h2 q => ?_)
        obtain ⟨rfl, w⟩ := q
        dsimp only [Option.toList, List.cons_append, List.nil_append]
        obtain ⟨c0, c1, c2⟩ := id w.rd
        have c3 := w.tm.1
        refine wr_istore (ls' := [_, _, _, _, _]) rfl rfl (Nat.le_of_ble_eq_true rfl) rfl ?_
        exact B _ _ _ _ w
    | ok vz =>
      obtain ⟨v, z⟩ := vz
      rw [hP] at q
      have hb := pnum_ok (by omega) hP
      obtain ⟨rfl, w⟩ := q
      dsimp only [Option.toList, List.cons_append, List.nil_append]
      obtain ⟨c0, c1, c2⟩ := id w.rd
      have c3 := w.tm.1
      have Z : ∀ h : am_H, PW h0 b t T n h m z 0 wt op → am_w X (d + 3) 35 (105, [.ref b, .int (iI (sgA T n (-1) p)), .int (iI k), .int (iI v), .int (iI 0)], [], h) (itQ h0 b t T n m (match (match psnum T n z with | .error r => .error r | .ok (g, r) => .ok ((v, g), r) : PR (Int × Int)) with | .error r => .error r | .ok (a, r) => .ok (((ptOf m wt op).step k a.1 a.2), r))) := by
        intro h w
        obtain ⟨c0, c1, c2⟩ := id w.rd
        have c3 := w.tm.1
        refine wr_aload_n rfl rfl rfl ?_
        refine wr_cv0 (k' := 43) (ci := 2) rfl rfl rfl rfl (by assumption) rfl rfl (wp_rsnum w o (by omega)) (fun r h2 q => ?_)
        cases hN : psnum T n z with
        | error x =>
          rw [hN] at q
          obtain ⟨⟨v', rfl, v1, v2⟩, w⟩ := q
          dsimp only [Option.toList, List.cons_append, List.nil_append]
          refine wr_istore (ls' := [_, _, _, _, _]) rfl rfl (Nat.le_of_ble_eq_true rfl) rfl ?_
          exact B _ _ _ _ w
        | ok vz =>
          obtain ⟨v', x⟩ := vz
          rw [hN] at q
          obtain ⟨rfl, w⟩ := q
          dsimp only [Option.toList, List.cons_append, List.nil_append]
          refine wr_istore (ls' := [_, _, _, _, _]) rfl rfl (Nat.le_of_ble_eq_true rfl) rfl ?_
          exact K (v, v') _ _ w
      rcases q13 with q13 | q13
      ·
        refine wr_istore_n (ls' := [_, _, _, _, _]) rfl rfl (Nat.le_of_ble_eq_true rfl) rfl ?_
        refine wr_iconst rfl rfl ?_
        refine wr_istore (ls' := [_, _, _, _, _]) rfl rfl (Nat.le_of_ble_eq_true rfl) rfl ?_
        refine wr_iload_n rfl rfl rfl ?_
        refine wr_iconst rfl rfl ?_
        refine wr_icmp_ne rfl rfl rfl (by omega) (by omega) (fun c76 => ?_) (fun c76 => by exfalso; omega)
        refine wr_iload_n rfl rfl rfl ?_
        refine wr_iconst rfl rfl ?_
        refine wr_icmp_eq rfl rfl rfl (by omega) (by omega) (fun c97 => ?_) (fun c97 => by exfalso; omega)
        exact Z _ w
      ·
        refine wr_istore_n (ls' := [_, _, _, _, _]) rfl rfl (Nat.le_of_ble_eq_true rfl) rfl ?_
        refine wr_iconst rfl rfl ?_
        refine wr_istore (ls' := [_, _, _, _, _]) rfl rfl (Nat.le_of_ble_eq_true rfl) rfl ?_
        refine wr_iload_n rfl rfl rfl ?_
        refine wr_iconst rfl rfl ?_
        refine wr_icmp_ne rfl rfl rfl (by omega) (by omega) (fun c76 => ?_) (fun c76 => by exfalso; omega)
        refine wr_iload_n rfl rfl rfl ?_
        refine wr_iconst rfl rfl ?_
        refine wr_icmp_eq rfl rfl rfl (by omega) (by omega) (fun c97 => by exfalso; omega) (fun c97 => ?_)
        refine wr_iload_n rfl rfl rfl ?_
        refine wr_iconst rfl rfl ?_
        refine wr_icmp_ne rfl rfl rfl (by omega) (by omega) (fun c102 => by exfalso; omega) (fun c102 => ?_)
        exact Z _ w
  · simp only [if_neg q4, if_neg q13]
    have k2 : k = 2 := by omega
    clear q13 kin3
    cases hP : pnum T n 0 (p + 1) with
    | error z =>
      rw [hP] at q
      obtain ⟨⟨v, rfl, v1, v2⟩, w⟩ := q
      dsimp only [Option.toList, List.cons_append, List.nil_append]
      obtain ⟨c0, c1, c2⟩ := id w.rd
      have c3 := w.tm.1
      refine wr_istore_n (ls' := [_, _, _, _, _]) rfl rfl (Nat.le_of_ble_eq_true rfl) rfl ?_
      refine wr_iconst rfl rfl ?_
      refine wr_istore (ls' := [_, _, _, _, _]) rfl rfl (Nat.le_of_ble_eq_true rfl) rfl ?_
      refine wr_iload_n rfl rfl rfl ?_
      refine wr_iconst rfl rfl ?_
      refine wr_icmp_ne rfl rfl rfl (by omega) (by omega) (fun c76 => ?_) (fun c76 => by exfalso; omega)
      refine wr_iload_n rfl rfl rfl ?_
      refine wr_iconst rfl rfl ?_
      refine wr_icmp_eq rfl rfl rfl (by omega) (by omega) (fun c97 => by exfalso; omega) (fun c97 => ?_)
      refine wr_iload_n rfl rfl rfl ?_
      refine wr_iconst rfl rfl ?_
      refine wr_icmp_ne rfl rfl rfl (by omega) (by omega) (fun c102 => ?_) (fun c102 => by exfalso; omega)
      exact B _ _ _ _ w
    | ok vz =>
      obtain ⟨v, z⟩ := vz
      rw [hP] at q
      obtain ⟨rfl, w⟩ := q
      dsimp only [Option.toList, List.cons_append, List.nil_append]
      obtain ⟨c0, c1, c2⟩ := id w.rd
      have c3 := w.tm.1
      refine wr_istore_n (ls' := [_, _, _, _, _]) rfl rfl (Nat.le_of_ble_eq_true rfl) rfl ?_
      refine wr_iconst rfl rfl ?_
      refine wr_istore (ls' := [_, _, _, _, _]) rfl rfl (Nat.le_of_ble_eq_true rfl) rfl ?_
      refine wr_iload_n rfl rfl rfl ?_
      refine wr_iconst rfl rfl ?_
      refine wr_icmp_ne rfl rfl rfl (by omega) (by omega) (fun c76 => ?_) (fun c76 => by exfalso; omega)
      refine wr_iload_n rfl rfl rfl ?_
      refine wr_iconst rfl rfl ?_
      refine wr_icmp_eq rfl rfl rfl (by omega) (by omega) (fun c97 => by exfalso; omega) (fun c97 => ?_)
      refine wr_iload_n rfl rfl rfl ?_
      refine wr_iconst rfl rfl ?_
      refine wr_icmp_ne rfl rfl rfl (by omega) (by omega) (fun c102 => ?_) (fun c102 => by exfalso; omega)
      exact K (v, 0) _ _ w
def tmQ (h0 : am_H) (b t : Nat) (T : Nat → Int) (n : Nat) (m : Tm) (P : PR PT) (r : Option Value) (h' : am_H) : Prop := r = none ∧ match P with
  | .error q => ∃ m' wt' op', PW h0 b t T n h' m' q 1 wt' op'
  | .ok (s, q) => PW h0 b t T n h' (Tm.mk (setT m s).kd (setT m s).fi (setT m s).se (setT m s).ta (updI m.en m.sz s.od) (setT m s).od (setT m s).st (m.sz + 1)) q 0 s.wt s.op
theorem pall_eq (F : Nat) (s : PT) (en : Nat → Int) (k p : Nat) : pall T n (F + 1) s en k p = if n ≤ p ∧ 0 < k then .ok ((s, en, k), p) else match (if 6 ≤ k then .error p else match pexp T n 123 p with | .error q => .error q | .ok (_, q) => ptmpl T n 500 (PT.mk s.kd s.fi s.se s.ta s.od (0) s.wt (0)) q : PR PT) with | .error r => .error r | .ok (s', r) => pall T n F s' (updI en k s'.od) (k + 1) (skp T n r) := by
  rw [pall]
  split
  · rfl
  · split
    · rfl
    · cases pexp T n 123 p with
      | error q => rfl
      | ok vz =>
        obtain ⟨_, q⟩ := vz
        cases ptmpl T n 500 (PT.mk s.kd s.fi s.se s.ta s.od (0) s.wt (0)) q <;> rfl
theorem pall_skp (F : Nat) (s : PT) (en : Nat → Int) (p : Nat) : pall T n (F + 1) s en 0 p = pall T n (F + 1) s en 0 (skp T n p) := by
  have e : pexp T n 123 (skp T n p) = pexp T n 123 p := by unfold pexp; rw [skp_idem]
  rw [pall_eq, pall_eq, if_neg (by omega), if_neg (by omega), if_neg (by omega), if_neg (by omega), e]
theorem wp_rtemplate {d : Nat} (w : PW h0 b t T n h m p 0 wt op) (o : okS T n) (hp : p ≤ n) (hs : m.sz ≤ 6) (hm : m.od ≤ 24 * m.sz) : am_c X (d + 5) 19 [.ref b] h (tmQ h0 b t T n m (if 6 ≤ m.sz then .error p else match pexp T n 123 p with | .error q => .error q | .ok (_, q) => ptmpl T n 500 (PT.mk (ptOf m wt op).kd (ptOf m wt op).fi (ptOf m wt op).se (ptOf m wt op).ta (ptOf m wt op).od (0) (ptOf m wt op).wt (0)) q)) := by
  have hn := o.1
  have b6 := b2_in (6 ≤ m.sz)
  have EX : ∀ (m1 : Tm) (q : Nat) (wt1 : Nat → Int) (op1 i : Nat) (x : Value) (h : am_H), i ≤ 401 → PW h0 b t T n h m1 q 1 wt1 op1 → am_w X (d + 4) 19 (37, [.ref b, .int (iI 1), .int (iI i), x], [], h) (tmQ h0 b t T n m (.error q)) := by
    intro m1 q wt1 op1 i x h hi w
    obtain ⟨c0, c1, c2⟩ := id w.rd
    have c3 := w.tm.1
    refine wr_iload_n rfl rfl rfl ?_
    refine wr_sipush rfl rfl (by decide) ?_
    refine wr_icmp_gt rfl rfl rfl (by omega) (by omega) (fun c41 => ?_) (fun c41 => ?_)
    ·
      refine wr_vret rfl rfl ?_
      exact ⟨rfl, _, _, _, w⟩
    ·
      refine wr_iload_n rfl rfl rfl ?_
      refine wr_if_eq rfl rfl rfl (by omega) (fun c45 => by exfalso; omega) (fun c45 => ?_)
      refine wr_aload_n rfl rfl rfl ?_
      refine wr_get (ci := 2) (f := 3) rfl rfl rfl (by assumption) rfl ?_
      refine wr_if_ne rfl rfl rfl (by omega) (fun c52 => ?_) (fun c52 => by exfalso; omega)
      refine wr_vret rfl rfl ?_
      exact ⟨rfl, _, _, _, w⟩
  by_cases s6 : 6 ≤ m.sz
  · rw [if_pos s6]
    have e6 : b2 (6 ≤ m.sz) = 1 := b2_t s6
    obtain ⟨c0, c1, c2⟩ := id w.rd
    have c3 := w.tm.1
    refine am_c.of (Nat.le_of_ble_eq_true rfl) ?_
    show am_w _ _ _ (_, [_, _, _, _], _, _) _
    refine wr_aload_n rfl rfl rfl ?_
    refine wr_get (ci := 2) (f := 4) rfl rfl rfl (by assumption) rfl ?_
    refine wr_cv0 (k' := 20) (ci := 1) rfl rfl rfl rfl (by assumption) rfl rfl (wp_tfull w.tm (by omega)) (fun r h2 q => ?_)
    obtain ⟨rfl, hh⟩ := q
    rw [hh]
    clear hh h2
    dsimp only [Option.toList, List.cons_append, List.nil_append]
    refine wr_if_eq rfl rfl rfl (by omega) (fun c7 => by exfalso; omega) (fun c7 => ?_)
    refine wr_aload_n rfl rfl rfl ?_
    refine wr_iconst rfl rfl ?_
    refine wr_putZ (ci := 2) (f := 3) (fs' := [_, _, _, _, _, _, _]) rfl rfl rfl (by assumption) rfl rfl (by decide) rfl (fun h1 e1 => ?_)
    have w := e1 ▸ w.r0 p 1 op
    clear e1
    obtain ⟨c0, c1, c2⟩ := id w.rd
    have c3 := w.tm.1
    refine wr_aload_n rfl rfl rfl ?_
    refine wr_bipush rfl rfl (by decide) ?_
    refine wr_cv1 (k' := 21) (ci := 2) rfl rfl rfl rfl (by assumption) rfl rfl (wp_rexp1 w) (fun r h2 q => ?_)
    obtain ⟨rfl, w⟩ := q
    dsimp only [Option.toList, List.cons_append, List.nil_append]
    obtain ⟨c0, c1, c2⟩ := id w.rd
    have c3 := w.tm.1
    refine wr_aload_n rfl rfl rfl ?_
    refine wr_get (ci := 2) (f := 4) rfl rfl rfl (by assumption) rfl ?_
    refine wr_cv0 (k' := 24) (ci := 1) rfl rfl rfl rfl (by assumption) rfl rfl (wp_tbegin w.tm) (fun r h2 q => ?_)
    obtain ⟨rfl, tm2, f2⟩ := q
    have w := w.to tm2 f2
    clear tm2 f2
    dsimp only [Option.toList, List.cons_append, List.nil_append]
    obtain ⟨c0, c1, c2⟩ := id w.rd
    have c3 := w.tm.1
    refine wr_aload_n rfl rfl rfl ?_
    refine wr_iconst rfl rfl ?_
    refine wr_putI (ci := 2) (f := 6) (fs' := [_, _, _, _, _, _, _]) rfl rfl rfl (by assumption) rfl rfl rfl (fun h1 e1 => ?_)
    have w := e1 ▸ w.r0 p 1 0
    clear e1
    obtain ⟨c0, c1, c2⟩ := id w.rd
    have c3 := w.tm.1
    refine wr_iconst rfl rfl ?_
    refine wr_istore_n (ls' := [_, _, _, _]) rfl rfl (Nat.le_of_ble_eq_true rfl) rfl ?_
    refine wr_iconst rfl rfl ?_
    refine wr_istore_n (ls' := [_, _, _, _]) rfl rfl (Nat.le_of_ble_eq_true rfl) rfl ?_
    exact EX _ _ _ _ 0 _ _ (by omega) w
  rw [if_neg s6]
  have e6 : b2 (6 ≤ m.sz) = 0 := b2_f s6
  have L : ∀ (k i F : Nat) (m1 : Tm) (p1 : Nat) (wt1 : Nat → Int) (op1 : Nat) (h : am_H), i + k = 401 → F + i = 500 → i ≤ p1 → p1 ≤ n → InvT m.od (ptOf m1 wt1 op1) → m1.en = m.en → m1.sz = m.sz → PW h0 b t T n h m1 p1 0 wt1 op1 → am_w X (d + 4) 19 (37, [.ref b, .int (iI 1), .int (iI i), am_U], [], h) (tmQ h0 b t T n m (ptmpl T n F (ptOf m1 wt1 op1) p1)) := by
    intro k
    induction k with
    | zero =>
      intro i F m1 p1 wt1 op1 h hk
      omega
    | succ k ih =>
      intro i F m1 p1 wt1 op1 h hk hF hi hp1 I hen hsz w
      have sk := skp_spec T n p1
      have sn := sk.2.1 hp1
      have zi := sgA_in (p := skp T n p1) (e := -1) o (by decide)
      have o5 : op1 ≤ 5 := I.op5
      have st12 : m1.st ≤ 12 := I.st12
      have num : m1.od + oaF m1.kd wt1 op1 ≤ m.od + 2 * m1.st := I.num
      obtain ⟨F, rfl⟩ : ∃ F', F = F' + 1 := ⟨F - 1, by omega⟩
      obtain ⟨c0, c1, c2⟩ := id w.rd
      have c3 := w.tm.1
      refine wr_iload_n rfl rfl rfl ?_
      refine wr_sipush rfl rfl (by decide) ?_
      refine wr_icmp_gt rfl rfl rfl (by omega) (by omega) (fun c41 => by exfalso; omega) (fun c41 => ?_)
      refine wr_iload_n rfl rfl rfl ?_
      refine wr_if_eq rfl rfl rfl (by omega) (fun c45 => by exfalso; omega) (fun c45 => ?_)
      refine wr_aload_n rfl rfl rfl ?_
      refine wr_get (ci := 2) (f := 3) rfl rfl rfl (by assumption) rfl ?_
      refine wr_if_ne rfl rfl rfl (by omega) (fun c52 => by exfalso; omega) (fun c52 => ?_)
      refine wr_aload_n rfl rfl rfl ?_
      refine wr_cv0 (k' := 22) (ci := 2) rfl rfl rfl rfl (by assumption) rfl rfl (wp_skip w o hp1) (fun r h2 q => ?_)
      obtain ⟨rfl, w⟩ := q
      dsimp only [Option.toList, List.cons_append, List.nil_append]
      obtain ⟨c0, c1, c2⟩ := id w.rd
      have c3 := w.tm.1
      refine wr_aload_n rfl rfl rfl ?_
      refine wr_cv0 (k' := 23) (ci := 2) rfl rfl rfl rfl (by assumption) rfl rfl (wp_rsign w hn (by omega)) (fun r h2 q => ?_)
      obtain ⟨rfl, hh⟩ := q
      rw [hh]
      clear hh h2
      dsimp only [Option.toList, List.cons_append, List.nil_append]
      refine wr_istore_n (ls' := [_, _, _, _]) rfl rfl (Nat.le_of_ble_eq_true rfl) rfl ?_
      have GO : ∀ (P : PR PT) (x : Value) (h : am_H), (pitem T n (ptOf m1 wt1 op1) p1 = P.it) → itQ h0 b t T n m1 P none h → am_w X (d + 4) 19 (124, [.ref b, .int (iI 1), .int (iI i), x], [], h) (tmQ h0 b t T n m (ptmpl T n (F + 1) (ptOf m1 wt1 op1) p1)) := by
        intro P x h hi q
        rw [ptmpl]
        cases P with
        | error z =>
          rw [hi]
          obtain ⟨-, m', wt', op', w⟩ := q
          refine wr_iinc (ls' := [_, _, _, _]) rfl rfl rfl rfl ?_
          refine wr_goto rfl rfl ?_
          rw [show (i : Int) + 1 = ((i + 1 : Nat) : Int) by omega]
          exact EX _ _ _ _ (i + 1) _ _ (by omega) w
        | ok vz =>
          obtain ⟨s', z⟩ := vz
          rw [hi]
          obtain ⟨-, w⟩ := q
          have a := pitem_more I hp1 hi
          refine wr_iinc (ls' := [_, _, _, _]) rfl rfl rfl rfl ?_
          refine wr_goto rfl rfl ?_
          refine am_w.wk (ls' := [_, _, _, am_U]) ⟨Or.inr rfl, Or.inr rfl, Or.inr rfl, Or.inl rfl, trivial⟩ ?_
          rw [show (i : Int) + 1 = ((i + 1 : Nat) : Int) by omega]
          exact ih (i + 1) F (setT m1 s') z s'.wt s'.op _ (by omega) (by omega) (by omega) a.2.2 a.1 hen hsz w
      by_cases q1 : sgA T n 0 (skp T n p1) = 41 ∧ 0 < op1
      · have z1 := (sgA_01 (T := T) (n := n) (p := skp T n p1) (c := 41) (by decide)).mpr q1.1
        have hi : pitem T n (ptOf m1 wt1 op1) p1 = (pclose T n (ptOf m1 wt1 op1) (skp T n p1)).it := by
          unfold pitem
          rw [if_pos (show _ ∧ 0 < (ptOf m1 wt1 op1).op from q1)]
        have l1 := sgA_lt q1.1 (by decide)
        refine wr_iload_n rfl rfl rfl ?_
        refine wr_bipush rfl rfl (by decide) ?_
        refine wr_icmp_ne rfl rfl rfl (by omega) (by omega) (fun c67 => by exfalso; omega) (fun c67 => ?_)
        refine wr_aload_n rfl rfl rfl ?_
        refine wr_get (ci := 2) (f := 6) rfl rfl rfl (by assumption) rfl ?_
        refine wr_if_le rfl rfl rfl (by omega) (fun c74 => by exfalso; omega) (fun c74 => ?_)
        refine wr_aload_n rfl rfl rfl ?_
        refine wr_cv0 (k' := 25) (ci := 2) rfl rfl rfl rfl (by assumption) rfl rfl (wp_rclose w o l1 q1.2 I (by omega)) (fun r h2 q => ?_)
        obtain ⟨rfl, q⟩ := q
        dsimp only [Option.toList, List.nil_append]
        refine wr_goto rfl rfl ?_
        exact GO _ _ _ hi ⟨rfl, q⟩
      by_cases q2 : sgA T n 0 (skp T n p1) = 125 ∧ op1 = 0
      · have z1 := (sgA_01 (T := T) (n := n) (p := skp T n p1) (c := 125) (by decide)).mpr q2.1
        have hi : pitem T n (ptOf m1 wt1 op1) p1 = .ok (none, (skp T n p1 + 1)) := by
          unfold pitem
          rw [if_neg (show ¬ (_ ∧ 0 < (ptOf m1 wt1 op1).op) from q1), if_pos (show _ ∧ (ptOf m1 wt1 op1).op = 0 from q2)]
        rw [ptmpl, hi]
        refine wr_iload_n rfl rfl rfl ?_
        refine wr_bipush rfl rfl (by decide) ?_
        refine wr_icmp_ne rfl rfl rfl (by omega) (by omega) (fun c67 => ?_) (fun c67 => by exfalso; omega)
        refine wr_iload_n rfl rfl rfl ?_
        refine wr_bipush rfl rfl (by decide) ?_
        refine wr_icmp_ne rfl rfl rfl (by omega) (by omega) (fun c87 => by exfalso; omega) (fun c87 => ?_)
        refine wr_aload_n rfl rfl rfl ?_
        refine wr_get (ci := 2) (f := 6) rfl rfl rfl (by assumption) rfl ?_
        refine wr_if_ne rfl rfl rfl (by omega) (fun c94 => by exfalso; omega) (fun c94 => ?_)
        refine wr_aload_n rfl rfl rfl ?_
        refine wr_dup rfl rfl ?_
        refine wr_get (ci := 2) (f := 2) rfl rfl rfl (by assumption) rfl ?_
        refine wr_iconst rfl rfl ?_
        refine wr_iadd rfl rfl ?_
        refine wr_putI (ci := 2) (f := 2) (fs' := [_, _, _, _, _, _, _]) rfl rfl rfl (by assumption) rfl rfl rfl (fun h1 e1 => ?_)
        have w := e1 ▸ w.r0 (skp T n p1 + 1) 0 op1
        clear e1
        obtain ⟨c0, c1, c2⟩ := id w.rd
        have c3 := w.tm.1
        refine wr_aload_n rfl rfl rfl ?_
        refine wr_get (ci := 2) (f := 4) rfl rfl rfl (by assumption) rfl ?_
        refine wr_cv0 (k' := 34) (ci := 1) rfl rfl rfl rfl (by assumption) rfl rfl (wp_tfinish w.tm (by omega)) (fun r h2 q => ?_)
        obtain ⟨rfl, tm2, f2⟩ := q
        have w := w.to tm2 f2
        clear tm2 f2
        dsimp only [Option.toList, List.cons_append, List.nil_append]
        obtain ⟨c0, c1, c2⟩ := id w.rd
        have c3 := w.tm.1
        refine wr_iconst rfl rfl ?_
        refine wr_istore_n (ls' := [_, _, _, _]) rfl rfl (Nat.le_of_ble_eq_true rfl) rfl ?_
        refine wr_goto rfl rfl ?_
        refine wr_iinc (ls' := [_, _, _, _]) rfl rfl rfl rfl ?_
        refine wr_goto rfl rfl ?_
        rw [hen, hsz] at w
        refine wr_iload_n rfl rfl rfl ?_
        refine wr_sipush rfl rfl (by decide) ?_
        refine wr_icmp_gt rfl rfl rfl (by omega) (by omega) (fun c41 => ?_) (fun c41 => ?_)
        ·
          refine wr_vret rfl rfl ?_
          exact ⟨rfl, w⟩
        ·
          refine wr_iload_n rfl rfl rfl ?_
          refine wr_if_eq rfl rfl rfl (by omega) (fun c45 => ?_) (fun c45 => by exfalso; omega)
          refine wr_vret rfl rfl ?_
          exact ⟨rfl, w⟩
      · have hi : pitem T n (ptOf m1 wt1 op1) p1 = (pstep T n (ptOf m1 wt1 op1) (sgA T n 0 (skp T n p1)) (skp T n p1)).it := by
          unfold pitem
          rw [if_neg (show ¬ (_ ∧ 0 < (ptOf m1 wt1 op1).op) from q1), if_neg (show ¬ (_ ∧ (ptOf m1 wt1 op1).op = 0) from q2)]
        have J : am_w X (d + 4) 19 (119, [.ref b, .int (iI 1), .int (iI i), .int (iI (sgA T n (-1) (skp T n p1)))], [], h2) (tmQ h0 b t T n m (ptmpl T n (F + 1) (ptOf m1 wt1 op1) p1)) := by
          refine wr_aload_n rfl rfl rfl ?_
          refine wr_iload_n rfl rfl rfl ?_
          refine wr_cv1 (k' := 35) (ci := 2) rfl rfl rfl rfl (by assumption) rfl rfl (wp_rstep w o (by omega) o5 (fun q => by omega) st12) (fun r h2 q => ?_)
          obtain ⟨rfl, q⟩ := q
          dsimp only [Option.toList, List.nil_append]
          exact GO _ _ _ hi ⟨rfl, q⟩
        have a1 := sgA_01 (T := T) (n := n) (p := skp T n p1) (c := 41) (by decide)
        have a2 := sgA_01 (T := T) (n := n) (p := skp T n p1) (c := 125) (by decide)
        by_cases s1 : sgA T n (-1) (skp T n p1) = 41
        · have s2 := a1.mp s1
          refine wr_iload_n rfl rfl rfl ?_
          refine wr_bipush rfl rfl (by decide) ?_
          refine wr_icmp_ne rfl rfl rfl (by omega) (by omega) (fun c67 => by exfalso; omega) (fun c67 => ?_)
          refine wr_aload_n rfl rfl rfl ?_
          refine wr_get (ci := 2) (f := 6) rfl rfl rfl (by assumption) rfl ?_
          refine wr_if_le rfl rfl rfl (by omega) (fun c74 => ?_) (fun c74 => by exfalso; omega)
          refine wr_iload_n rfl rfl rfl ?_
          refine wr_bipush rfl rfl (by decide) ?_
          refine wr_icmp_ne rfl rfl rfl (by omega) (by omega) (fun c87 => ?_) (fun c87 => by exfalso; omega)
          exact J
        by_cases s3 : sgA T n (-1) (skp T n p1) = 125
        · have s2 := a2.mp s3
          refine wr_iload_n rfl rfl rfl ?_
          refine wr_bipush rfl rfl (by decide) ?_
          refine wr_icmp_ne rfl rfl rfl (by omega) (by omega) (fun c67 => ?_) (fun c67 => by exfalso; omega)
          refine wr_iload_n rfl rfl rfl ?_
          refine wr_bipush rfl rfl (by decide) ?_
          refine wr_icmp_ne rfl rfl rfl (by omega) (by omega) (fun c87 => by exfalso; omega) (fun c87 => ?_)
          refine wr_aload_n rfl rfl rfl ?_
          refine wr_get (ci := 2) (f := 6) rfl rfl rfl (by assumption) rfl ?_
          refine wr_if_ne rfl rfl rfl (by omega) (fun c94 => ?_) (fun c94 => by exfalso; omega)
          exact J
        ·
          refine wr_iload_n rfl rfl rfl ?_
          refine wr_bipush rfl rfl (by decide) ?_
          refine wr_icmp_ne rfl rfl rfl (by omega) (by omega) (fun c67 => ?_) (fun c67 => by exfalso; omega)
          refine wr_iload_n rfl rfl rfl ?_
          refine wr_bipush rfl rfl (by decide) ?_
          refine wr_icmp_ne rfl rfl rfl (by omega) (by omega) (fun c87 => ?_) (fun c87 => by exfalso; omega)
          exact J
  obtain ⟨c0, c1, c2⟩ := id w.rd
  have c3 := w.tm.1
  refine am_c.of (Nat.le_of_ble_eq_true rfl) ?_
  show am_w _ _ _ (_, [_, _, _, _], _, _) _
  refine wr_aload_n rfl rfl rfl ?_
  refine wr_get (ci := 2) (f := 4) rfl rfl rfl (by assumption) rfl ?_
  refine wr_cv0 (k' := 20) (ci := 1) rfl rfl rfl rfl (by assumption) rfl rfl (wp_tfull w.tm (by omega)) (fun r h2 q => ?_)
  obtain ⟨rfl, hh⟩ := q
  rw [hh]
  clear hh h2
  dsimp only [Option.toList, List.cons_append, List.nil_append]
  refine wr_if_eq rfl rfl rfl (by omega) (fun c7 => ?_) (fun c7 => by exfalso; omega)
  refine wr_aload_n rfl rfl rfl ?_
  refine wr_bipush rfl rfl (by decide) ?_
  refine wr_cv1 (k' := 21) (ci := 2) rfl rfl rfl rfl (by assumption) rfl rfl (wp_rexp w o hp (by decide)) (fun r h2 q => ?_)
  cases hE : pexp T n 123 p with
  | error y =>
    rw [hE] at q
    obtain ⟨rfl, w⟩ := q
    dsimp only [Option.toList, List.nil_append] at w ⊢
    obtain ⟨c0, c1, c2⟩ := id w.rd
    have c3 := w.tm.1
    refine wr_aload_n rfl rfl rfl ?_
    refine wr_get (ci := 2) (f := 4) rfl rfl rfl (by assumption) rfl ?_
    refine wr_cv0 (k' := 24) (ci := 1) rfl rfl rfl rfl (by assumption) rfl rfl (wp_tbegin w.tm) (fun r h2 q => ?_)
    obtain ⟨rfl, tm2, f2⟩ := q
    have w := w.to tm2 f2
    clear tm2 f2
    dsimp only [Option.toList, List.cons_append, List.nil_append]
    obtain ⟨c0, c1, c2⟩ := id w.rd
    have c3 := w.tm.1
    refine wr_aload_n rfl rfl rfl ?_
    refine wr_iconst rfl rfl ?_
    refine wr_putI (ci := 2) (f := 6) (fs' := [_, _, _, _, _, _, _]) rfl rfl rfl (by assumption) rfl rfl rfl (fun h1 e1 => ?_)
    have w := e1 ▸ w.r0 y 1 0
    clear e1
    obtain ⟨c0, c1, c2⟩ := id w.rd
    have c3 := w.tm.1
    refine wr_iconst rfl rfl ?_
    refine wr_istore_n (ls' := [_, _, _, _]) rfl rfl (Nat.le_of_ble_eq_true rfl) rfl ?_
    refine wr_iconst rfl rfl ?_
    refine wr_istore_n (ls' := [_, _, _, _]) rfl rfl (Nat.le_of_ble_eq_true rfl) rfl ?_
    exact EX _ _ _ _ 0 _ _ (by omega) w
  | ok vz =>
    obtain ⟨_, y⟩ := vz
    rw [hE] at q
    have hb2 := pexp_ok hp (by decide) hE
    obtain ⟨rfl, w⟩ := q
    dsimp only [Option.toList, List.nil_append] at w ⊢
    obtain ⟨c0, c1, c2⟩ := id w.rd
    have c3 := w.tm.1
    refine wr_aload_n rfl rfl rfl ?_
    refine wr_get (ci := 2) (f := 4) rfl rfl rfl (by assumption) rfl ?_
    refine wr_cv0 (k' := 24) (ci := 1) rfl rfl rfl rfl (by assumption) rfl rfl (wp_tbegin w.tm) (fun r h2 q => ?_)
    obtain ⟨rfl, tm2, f2⟩ := q
    have w := w.to tm2 f2
    clear tm2 f2
    dsimp only [Option.toList, List.cons_append, List.nil_append]
    obtain ⟨c0, c1, c2⟩ := id w.rd
    have c3 := w.tm.1
    refine wr_aload_n rfl rfl rfl ?_
    refine wr_iconst rfl rfl ?_
    refine wr_putI (ci := 2) (f := 6) (fs' := [_, _, _, _, _, _, _]) rfl rfl rfl (by assumption) rfl rfl rfl (fun h1 e1 => ?_)
    have w := e1 ▸ w.r0 y 0 0
    clear e1
    obtain ⟨c0, c1, c2⟩ := id w.rd
    have c3 := w.tm.1
    refine wr_iconst rfl rfl ?_
    refine wr_istore_n (ls' := [_, _, _, _]) rfl rfl (Nat.le_of_ble_eq_true rfl) rfl ?_
    refine wr_iconst rfl rfl ?_
    refine wr_istore_n (ls' := [_, _, _, _]) rfl rfl (Nat.le_of_ble_eq_true rfl) rfl ?_
    exact L 401 0 500 (Tm.mk m.kd m.fi m.se m.ta m.en m.od (0) m.sz) y wt 0 _ (by omega) (by omega) (by omega) hb2.2 (InvT.start (ptOf m wt op)) rfl rfl w
theorem wp_rforget {d : Nat} (w : isR h b t T n p wr wt op) : am_c X (d + 1) 44 [.ref b] h (fun r h' => r = none ∧ isR h' b t T 0 p wr wt op ∧ frI [(b, b + 2)] h h') := by
  obtain ⟨c0, c1, c2⟩ := id w
  refine am_c.of (Nat.le_of_ble_eq_true rfl) ?_
  show am_w _ _ _ (_, [_], _, _) _
  refine wr_aload_n rfl rfl rfl ?_
  refine wr_iconst rfl rfl ?_
  refine wr_putI (ci := 2) (f := 1) (fs' := [_, _, _, _, _, _, _]) rfl rfl rfl (by assumption) rfl rfl rfl (fun h1 e1 => ?_)
  refine wr_vret rfl rfl ?_
  refine ⟨rfl, ⟨by rw [e1]; exact am_set_s c0, by rw [e1, am_set_n (by omega)]; exact c1, by rw [e1, am_set_n (by omega)]; exact c2⟩, by rw [e1]; exact frI_set (by omega)⟩
theorem wp_rcollect {d : Nat} {u : Int} (w : isR h b t T n p wr wt op) (hn : n ≤ 400) (hu : -2147483648 ≤ u ∧ u ≤ 2147483647) : am_c X (d + 1) 15 [.ref b, .int (iI u)] h (fun r h' => ((32 ≤ u ∧ u ≤ 126 ∧ n < 400) ∧ r = some (.int (iI 1)) ∧ isR h' b t (updI T n u) (n + 1) p wr wt op ∧ frI [(b, b + 2)] h h') ∨ (¬ (32 ≤ u ∧ u ≤ 126 ∧ n < 400) ∧ r = some (.int (iI 0)) ∧ h' = h)) := by
  obtain ⟨c0, c1, c2⟩ := id w
  have f : frI [(b, b + 2)] h h := frI_rf _ _
  refine am_c.of (Nat.le_of_ble_eq_true rfl) ?_
  show am_w _ _ _ (_, [_, _], _, _) _
  refine wr_iload_n rfl rfl rfl ?_
  refine wr_bipush rfl rfl (by decide) ?_
  refine wr_icmp_lt rfl rfl rfl (by omega) (by omega) (fun c3 => ?_) (fun c3 => ?_)
  ·
    refine wr_iconst rfl rfl ?_
    refine wr_zret rfl rfl (by decide) ?_
    first | exact Or.inr ⟨by omega, rfl, rfl⟩ | exact Or.inl ⟨by omega, rfl, w, f⟩
  ·
    refine wr_iload_n rfl rfl rfl ?_
    refine wr_bipush rfl rfl (by decide) ?_
    refine wr_icmp_gt rfl rfl rfl (by omega) (by omega) (fun c9 => ?_) (fun c9 => ?_)
    ·
      refine wr_iconst rfl rfl ?_
      refine wr_zret rfl rfl (by decide) ?_
      first | exact Or.inr ⟨by omega, rfl, rfl⟩ | exact Or.inl ⟨by omega, rfl, w, f⟩
    ·
      refine wr_aload_n rfl rfl rfl ?_
      refine wr_get (ci := 2) (f := 1) rfl rfl rfl (by assumption) rfl ?_
      refine wr_aload_n rfl rfl rfl ?_
      refine wr_get (ci := 2) (f := 0) rfl rfl rfl (by assumption) rfl ?_
      refine wr_alen rfl rfl (by assumption) (by decide) ?_
      refine wr_icmp_lt rfl rfl rfl (by omega) (by omega) (fun c21 => ?_) (fun c21 => ?_)
      ·
        refine wr_aload_n rfl rfl rfl ?_
        refine wr_get (ci := 2) (f := 0) rfl rfl rfl (by assumption) rfl ?_
        refine wr_aload_n rfl rfl rfl ?_
        refine wr_get (ci := 2) (f := 1) rfl rfl rfl (by assumption) rfl ?_
        refine wr_iload_n rfl rfl rfl ?_
        refine wr_iast rfl rfl (by assumption) (by omega) (by omega) (fun h1 e1 => ?_)
        have f : frI _ h h1 := frI_tr f (by rw [e1]; exact frI_set (by omega))
        have w : isR h1 b t (updI T n u) n p wr wt op := ⟨by rw [e1, am_set_n (by omega)]; exact c0, by rw [e1]; exact am_set_s c1, by rw [e1, am_set_n (by omega)]; exact c2⟩
        clear e1
        obtain ⟨c0, c1, c2⟩ := id w
        refine wr_aload_n rfl rfl rfl ?_
        refine wr_dup rfl rfl ?_
        refine wr_get (ci := 2) (f := 1) rfl rfl rfl (by assumption) rfl ?_
        refine wr_iconst rfl rfl ?_
        refine wr_iadd rfl rfl ?_
        refine wr_putI (ci := 2) (f := 1) (fs' := [_, _, _, _, _, _, _]) rfl rfl rfl (by assumption) rfl rfl rfl (fun h1 e1 => ?_)
        have f : frI _ h h1 := frI_tr f (by rw [e1]; exact frI_set (by omega))
        have w : isR h1 b t (updI T n u) (n + 1) p wr wt op := ⟨by rw [e1]; exact am_set_s c0, by rw [e1, am_set_n (by omega)]; exact c1, by rw [e1, am_set_n (by omega)]; exact c2⟩
        clear e1
        refine wr_iconst rfl rfl ?_
        refine wr_zret rfl rfl (by decide) ?_
        first | exact Or.inr ⟨by omega, rfl, rfl⟩ | exact Or.inl ⟨by omega, rfl, w, f⟩
      ·
        refine wr_iconst rfl rfl ?_
        refine wr_zret rfl rfl (by decide) ?_
        first | exact Or.inr ⟨by omega, rfl, rfl⟩ | exact Or.inl ⟨by omega, rfl, w, f⟩
def parQ (h0 : am_H) (b t : Nat) (T : Nat → Int) (n : Nat) (P : PR (PT × (Nat → Int) × Nat)) (r : Option Value) (h' : am_H) : Prop := match P with
  | .error q => r = some (.int (iI 0)) ∧ ∃ m' wt' op', PW h0 b t T n h' m' q 1 wt' op'
  | .ok (a, q) => r = some (.int (iI 1)) ∧ PW h0 b t T n h' ⟨a.1.kd, a.1.fi, a.1.se, a.1.ta, a.2.1, a.1.od, a.1.st, a.2.2⟩ q 0 a.1.wt a.1.op
theorem wp_rparse {d t0 p0 : Nat} {wr0 : Int} (hr : isR h b t0 T n p0 wr0 wt op) (ht : isT h t m) (sep : t + 5 < b ∨ b + 2 < t) (o : okS T n) : am_c X (d + 6) 17 [.ref b, .ref t] h (parQ h b t T n (pall T n 500 (PT.mk (ptOf m wt op).kd (ptOf m wt op).fi (ptOf m wt op).se (ptOf m wt op).ta (0) (ptOf m wt op).st (ptOf m wt op).wt (ptOf m wt op).op) m.en 0 (skp T n 0))) := by
  have hn := o.1
  have L : ∀ (k i F : Nat) (m1 : Tm) (p1 : Nat) (wt1 : Nat → Int) (op1 : Nat) (h1 : am_H), i + k = 401 → F + i = 500 → i ≤ p1 → p1 ≤ n → m1.sz ≤ 6 → m1.od ≤ 24 * m1.sz → PW h b t T n h1 m1 p1 0 wt1 op1 → am_w X (d + 5) 17 (24, [.ref b, .ref t, .int (iI i)], [], h1) (parQ h b t T n (pall T n F (ptOf m1 wt1 op1) m1.en m1.sz p1)) := by
    intro k
    induction k with
    | zero =>
      intro i F m1 p1 wt1 op1 h1 hk
      omega
    | succ k ih =>
      intro i F m1 p1 wt1 op1 h1 hk hF hi hp1 s6 od w
      obtain ⟨F, rfl⟩ : ∃ F', F = F' + 1 := ⟨F - 1, by omega⟩
      obtain ⟨c0, c1, c2⟩ := id w.rd
      have c3 := w.tm.1
      rw [pall_eq]
      by_cases c : n ≤ p1 ∧ 0 < m1.sz
      · rw [if_pos c]
        refine wr_iload_n rfl rfl rfl ?_
        refine wr_sipush rfl rfl (by decide) ?_
        refine wr_icmp_gt rfl rfl rfl (by omega) (by omega) (fun c28 => by exfalso; omega) (fun c28 => ?_)
        refine wr_aload_n rfl rfl rfl ?_
        refine wr_get (ci := 2) (f := 3) rfl rfl rfl (by assumption) rfl ?_
        refine wr_if_ne rfl rfl rfl (by omega) (fun c35 => by exfalso; omega) (fun c35 => ?_)
        refine wr_aload_n rfl rfl rfl ?_
        refine wr_get (ci := 2) (f := 2) rfl rfl rfl (by assumption) rfl ?_
        refine wr_aload_n rfl rfl rfl ?_
        refine wr_get (ci := 2) (f := 1) rfl rfl rfl (by assumption) rfl ?_
        refine wr_icmp_lt rfl rfl rfl (by omega) (by omega) (fun c46 => by exfalso; omega) (fun c46 => ?_)
        refine wr_aload_n rfl rfl rfl ?_
        refine wr_get (ci := 2) (f := 4) rfl rfl rfl (by assumption) rfl ?_
        refine wr_get (ci := 1) (f := 7) rfl rfl rfl (by assumption) rfl ?_
        refine wr_if_le rfl rfl rfl (by omega) (fun c56 => by exfalso; omega) (fun c56 => ?_)
        refine wr_iconst rfl rfl ?_
        refine wr_zret rfl rfl (by decide) ?_
        exact ⟨rfl, w⟩
      rw [if_neg c]
      have J : am_w X (d + 5) 17 (61, [.ref b, .ref t, .int (iI i)], [], h1) (parQ h b t T n (match (if 6 ≤ m1.sz then .error p1 else match pexp T n 123 p1 with | .error q => .error q | .ok (_, q) => ptmpl T n 500 (PT.mk (ptOf m1 wt1 op1).kd (ptOf m1 wt1 op1).fi (ptOf m1 wt1 op1).se (ptOf m1 wt1 op1).ta (ptOf m1 wt1 op1).od (0) (ptOf m1 wt1 op1).wt (0)) q : PR PT) with | .error r => .error r | .ok (s', r) => pall T n F s' (updI m1.en m1.sz s'.od) (m1.sz + 1) (skp T n r))) := by
        refine wr_aload_n rfl rfl rfl ?_
        refine wr_cv0 (k' := 19) (ci := 2) rfl rfl rfl rfl (by assumption) rfl rfl (wp_rtemplate w o hp1 s6 od) (fun r h2 q => ?_)
        cases hP : (if 6 ≤ m1.sz then .error p1 else match pexp T n 123 p1 with | .error q => .error q | .ok (_, q) => ptmpl T n 500 (PT.mk (ptOf m1 wt1 op1).kd (ptOf m1 wt1 op1).fi (ptOf m1 wt1 op1).se (ptOf m1 wt1 op1).ta (ptOf m1 wt1 op1).od (0) (ptOf m1 wt1 op1).wt (0)) q : PR PT) with
        | error z =>
          rw [hP] at q
          obtain ⟨rfl, m', wt', op', w⟩ := q
          dsimp only [Option.toList, List.nil_append]
          obtain ⟨c0, c1, c2⟩ := id w.rd
          have c3 := w.tm.1
          refine wr_aload_n rfl rfl rfl ?_
          refine wr_cv0 (k' := 22) (ci := 2) rfl rfl rfl rfl (by assumption) rfl rfl (wp_skip1 w) (fun r h2 q => ?_)
          obtain ⟨rfl, w⟩ := q
          dsimp only [Option.toList, List.cons_append, List.nil_append]
          obtain ⟨c0, c1, c2⟩ := id w.rd
          have c3 := w.tm.1
          refine wr_iinc (ls' := [_, _, _]) rfl rfl rfl rfl ?_
          refine wr_goto rfl rfl ?_
          refine wr_iload_n rfl rfl rfl ?_
          refine wr_sipush rfl rfl (by decide) ?_
          refine wr_icmp_gt rfl rfl rfl (by omega) (by omega) (fun c28 => ?_) (fun c28 => ?_)
          ·
            refine wr_iconst rfl rfl ?_
            refine wr_zret rfl rfl (by decide) ?_
            exact ⟨rfl, _, _, _, w⟩
          ·
            refine wr_aload_n rfl rfl rfl ?_
            refine wr_get (ci := 2) (f := 3) rfl rfl rfl (by assumption) rfl ?_
            refine wr_if_ne rfl rfl rfl (by omega) (fun c35 => ?_) (fun c35 => by exfalso; omega)
            refine wr_iconst rfl rfl ?_
            refine wr_zret rfl rfl (by decide) ?_
            exact ⟨rfl, _, _, _, w⟩
        | ok vz =>
          obtain ⟨s', z⟩ := vz
          rw [hP] at q
          obtain ⟨rfl, w⟩ := q
          dsimp only [Option.toList, List.nil_append] at w ⊢
          have a : m1.sz < 6 ∧ InvT m1.od s' ∧ p1 < z ∧ z ≤ n := by
            split at hP
            · cases hP
            · split at hP
              · cases hP
              · rename_i x y hy
                have e1 := pexp_ok hp1 (by decide) hy
                have e2 := ptmpl_ok 500 (InvT.start (ptOf m1 wt1 op1)) e1.2 hP
                exact ⟨by omega, e2.1, by omega, e2.2.2.2⟩
          have zs := skp_spec T n z
          have zn := zs.2.1 a.2.2.2
          have o24 : s'.od ≤ m1.od + 24 := by have := a.2.1.num; have := a.2.1.st12; omega
          obtain ⟨c0, c1, c2⟩ := id w.rd
          have c3 := w.tm.1
          refine wr_aload_n rfl rfl rfl ?_
          refine wr_cv0 (k' := 22) (ci := 2) rfl rfl rfl rfl (by assumption) rfl rfl (wp_skip w o a.2.2.2) (fun r h2 q => ?_)
          obtain ⟨rfl, w⟩ := q
          dsimp only [Option.toList, List.cons_append, List.nil_append]
          obtain ⟨c0, c1, c2⟩ := id w.rd
          have c3 := w.tm.1
          refine wr_iinc (ls' := [_, _, _]) rfl rfl rfl rfl ?_
          refine wr_goto rfl rfl ?_
          rw [show (i : Int) + 1 = ((i + 1 : Nat) : Int) by omega]
          exact ih (i + 1) F (Tm.mk (setT m1 s').kd (setT m1 s').fi (setT m1 s').se (setT m1 s').ta (updI m1.en m1.sz s'.od) (setT m1 s').od (setT m1 s').st (m1.sz + 1)) (skp T n z) s'.wt s'.op _ (by omega) (by omega) (by omega) zn (by show m1.sz + 1 ≤ 6; omega) (by show s'.od ≤ 24 * (m1.sz + 1); omega) w
      by_cases c2 : p1 < n
      ·
        refine wr_iload_n rfl rfl rfl ?_
        refine wr_sipush rfl rfl (by decide) ?_
        refine wr_icmp_gt rfl rfl rfl (by omega) (by omega) (fun c28 => by exfalso; omega) (fun c28 => ?_)
        refine wr_aload_n rfl rfl rfl ?_
        refine wr_get (ci := 2) (f := 3) rfl rfl rfl (by assumption) rfl ?_
        refine wr_if_ne rfl rfl rfl (by omega) (fun c35 => by exfalso; omega) (fun c35 => ?_)
        refine wr_aload_n rfl rfl rfl ?_
        refine wr_get (ci := 2) (f := 2) rfl rfl rfl (by assumption) rfl ?_
        refine wr_aload_n rfl rfl rfl ?_
        refine wr_get (ci := 2) (f := 1) rfl rfl rfl (by assumption) rfl ?_
        refine wr_icmp_lt rfl rfl rfl (by omega) (by omega) (fun c46 => ?_) (fun c46 => by exfalso; omega)
        exact J
      ·
        refine wr_iload_n rfl rfl rfl ?_
        refine wr_sipush rfl rfl (by decide) ?_
        refine wr_icmp_gt rfl rfl rfl (by omega) (by omega) (fun c28 => by exfalso; omega) (fun c28 => ?_)
        refine wr_aload_n rfl rfl rfl ?_
        refine wr_get (ci := 2) (f := 3) rfl rfl rfl (by assumption) rfl ?_
        refine wr_if_ne rfl rfl rfl (by omega) (fun c35 => by exfalso; omega) (fun c35 => ?_)
        refine wr_aload_n rfl rfl rfl ?_
        refine wr_get (ci := 2) (f := 2) rfl rfl rfl (by assumption) rfl ?_
        refine wr_aload_n rfl rfl rfl ?_
        refine wr_get (ci := 2) (f := 1) rfl rfl rfl (by assumption) rfl ?_
        refine wr_icmp_lt rfl rfl rfl (by omega) (by omega) (fun c46 => by exfalso; omega) (fun c46 => ?_)
        refine wr_aload_n rfl rfl rfl ?_
        refine wr_get (ci := 2) (f := 4) rfl rfl rfl (by assumption) rfl ?_
        refine wr_get (ci := 1) (f := 7) rfl rfl rfl (by assumption) rfl ?_
        refine wr_if_le rfl rfl rfl (by omega) (fun c56 => ?_) (fun c56 => by exfalso; omega)
        exact J
  obtain ⟨c0, c1, c2⟩ := id hr
  have c3 := ht.1
  rw [← pall_skp]
  refine am_c.of (Nat.le_of_ble_eq_true rfl) ?_
  show am_w _ _ _ (_, [_, _, _], _, _) _
  refine wr_aload_n rfl rfl rfl ?_
  refine wr_aload_n rfl rfl rfl ?_
  refine wr_putR (ci := 2) (f := 4) (fs' := [_, _, _, _, _, _, _]) rfl rfl rfl (by assumption) rfl rfl rfl (fun h1 e1 => ?_)
  have w : PW h b t T n h1 m p0 wr0 wt op := ⟨e1 ▸ frI_setM ⟨(b, b + 2), by simp, by simp, by simp⟩, e1 ▸ ht.same (same_set (lo := t) (up := t + 5) (by omega)) ⟨Nat.le_refl _, Nat.le_refl _⟩, ⟨by rw [e1]; exact am_set_s c0, by rw [e1, am_set_n (by omega)]; exact c1, by rw [e1, am_set_n (by omega)]; exact c2⟩, sep⟩
  clear e1
  obtain ⟨c0, c1, c2⟩ := id w.rd
  have c3 := w.tm.1
  refine wr_aload_n rfl rfl rfl ?_
  refine wr_get (ci := 2) (f := 4) rfl rfl rfl (by assumption) rfl ?_
  refine wr_cv0 (k' := 18) (ci := 1) rfl rfl rfl rfl (by assumption) rfl rfl (wp_tempty w.tm) (fun r h2 q => ?_)
  obtain ⟨rfl, tm2, f2⟩ := q
  have w := w.to tm2 f2
  clear tm2 f2
  dsimp only [Option.toList, List.cons_append, List.nil_append]
  obtain ⟨c0, c1, c2⟩ := id w.rd
  have c3 := w.tm.1
  refine wr_aload_n rfl rfl rfl ?_
  refine wr_iconst rfl rfl ?_
  refine wr_putI (ci := 2) (f := 2) (fs' := [_, _, _, _, _, _, _]) rfl rfl rfl (by assumption) rfl rfl rfl (fun h1 e1 => ?_)
  have w := e1 ▸ w.r0 0 wr0 op
  clear e1
  obtain ⟨c0, c1, c2⟩ := id w.rd
  have c3 := w.tm.1
  refine wr_aload_n rfl rfl rfl ?_
  refine wr_iconst rfl rfl ?_
  refine wr_putZ (ci := 2) (f := 3) (fs' := [_, _, _, _, _, _, _]) rfl rfl rfl (by assumption) rfl rfl (by decide) rfl (fun h1 e1 => ?_)
  have w := e1 ▸ w.r0 0 0 op
  clear e1
  obtain ⟨c0, c1, c2⟩ := id w.rd
  have c3 := w.tm.1
  refine wr_iconst rfl rfl ?_
  refine wr_istore_n (ls' := [_, _, _]) rfl rfl (Nat.le_of_ble_eq_true rfl) rfl ?_
  exact L 401 0 500 (Tm.mk m.kd m.fi m.se m.ta m.en (0) m.st (0)) 0 wt op _ (by omega) (by omega) (by omega) (by omega) (by show 0 ≤ 6; omega) (by show 0 ≤ 24 * 0; omega) w
end RDS
