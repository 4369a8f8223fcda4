/-! THE CLASS'S ARITHMETIC: divide -/
section ARB
variable {X : Nat × (Nat → Int32)}
/-- a scaled divisor has as many limbs as before, and the highest is 2 at least -/
theorem fac_top {gb gd : Nat → Int} {nb nd : Nat} (kb : nok gb nb) (n0 : 0 < nb) (kd : nok gd nd) (e : nv gd nd = wFac gb nb * nv gb nb) : 0 < nd ∧ 2 ≤ gd (nd - 1) := by
  have hf := wFac_in kb
  have eb : nv gb nb = nv gb (nb - 1) + gb (nb - 1) * 1000000000 ^ (nb - 1) := by
    obtain ⟨w, rfl⟩ : ∃ w, nb = w + 1 := ⟨nb - 1, by omega⟩
    rfl
  have lb := nv_nonneg (g := gb) (n := nb - 1) (fun j hj => kb.1 j (by omega))
  have t1 := kb.1 (nb - 1) (by omega)
  have t2 := kb.2 n0
  have p0 := bp_pos (nb - 1)
  have fe : wFac gb nb = 1000000000 / (gb (nb - 1) + 1) := by unfold wFac; rw [if_neg (by omega)]
  have f1 : wFac gb nb * (gb (nb - 1) + 1) ≤ 1000000000 := by rw [fe]; exact Int.ediv_mul_le _ (by omega)
  have nb0 := (nv_nonneg kb.1).1
  have low : 1 * nv gb nb ≤ wFac gb nb * nv gb nb := Int.mul_le_mul_of_nonneg_right (by omega) (by omega)
  have hlow := nv_low kb n0
  have n1 : 0 < nd := by
    rcases Nat.eq_zero_or_pos nd with q | q
    · subst q
      have : nv gd 0 = 0 := rfl
      omega
    · exact q
  have up : wFac gb nb * nv gb nb < 1000000000 ^ nb := by
    have y1 : wFac gb nb * nv gb nb < wFac gb nb * ((gb (nb - 1) + 1) * 1000000000 ^ (nb - 1)) := Int.mul_lt_mul_of_pos_left (by rw [Int.add_mul]; omega) (by omega)
    have y2 : wFac gb nb * (gb (nb - 1) + 1) * 1000000000 ^ (nb - 1) ≤ 1000000000 * 1000000000 ^ (nb - 1) := Int.mul_le_mul_of_nonneg_right f1 (by omega)
    have e1 : wFac gb nb * ((gb (nb - 1) + 1) * 1000000000 ^ (nb - 1)) = wFac gb nb * (gb (nb - 1) + 1) * 1000000000 ^ (nb - 1) := by rw [Int.mul_assoc]
    have e2 : (1000000000 : Int) ^ nb = 1000000000 * 1000000000 ^ (nb - 1) := by
      obtain ⟨w, rfl⟩ : ∃ w, nb = w + 1 := ⟨nb - 1, by omega⟩
      rw [Int.pow_succ, show w + 1 - 1 = w by omega, Int.mul_comm]
    omega
  have m1 : nd ≤ nb := nv_fit kd (by omega)
  have m2 : nb ≤ nd := by
    rcases Nat.lt_or_ge nd nb with q | q
    · have y1 := nv_nonneg kd.1
      have y2 := bp_mono (m := nd) (n := nb - 1) (by omega)
      omega
    · exact q
  have m3 : nd = nb := by omega
  refine ⟨n1, ?_⟩
  have ed : nv gd nd = nv gd (nd - 1) + gd (nd - 1) * 1000000000 ^ (nd - 1) := by
    obtain ⟨w, rfl⟩ : ∃ w, nd = w + 1 := ⟨nd - 1, by omega⟩
    rfl
  have ld := nv_nonneg (g := gd) (n := nd - 1) (fun j hj => kd.1 j (by omega))
  have f2 : 2 ≤ wFac gb nb * gb (nb - 1) := by
    by_cases q : gb (nb - 1) = 1
    · rw [fe, q]
      decide
    · have : 1 * gb (nb - 1) ≤ wFac gb nb * gb (nb - 1) := Int.mul_le_mul_of_nonneg_right (by omega) (by omega)
      omega
  have f3 : 2 * 1000000000 ^ (nb - 1) ≤ wFac gb nb * gb (nb - 1) * 1000000000 ^ (nb - 1) := Int.mul_le_mul_of_nonneg_right f2 (by omega)
  have f4 : wFac gb nb * (gb (nb - 1) * 1000000000 ^ (nb - 1)) ≤ wFac gb nb * nv gb nb := Int.mul_le_mul_of_nonneg_left (by omega) (by omega)
  rw [Int.mul_assoc] at f3
  rw [m3] at ed ld ⊢
  rcases Int.lt_or_le (gd (nb - 1)) 2 with q | q
  · have : gd (nb - 1) * 1000000000 ^ (nb - 1) ≤ 1 * 1000000000 ^ (nb - 1) := Int.mul_le_mul_of_nonneg_right (by omega) (by omega)
    rw [m3] at e
    omega
  · exact q
theorem wp_divide {d s tq lq cq ta la ca tb lb cb : Nat} {h : am_H} {v0 w1 w2 va vb : Int} (hs : h[s]? = some (arCell s)) (hr : isW h (s + 15) (s + 16) 128 w1) (hdv : isW h (s + 17) (s + 18) 128 w2) (hq : isW h tq lq cq v0) (ha : isW h ta la ca va) (hb : isW h tb lb cb vb) (hb0 : 0 < vb) (hca : ca ≤ 1000000) (hcb : cb ≤ 1000000) (hcq : 0 < cq ∧ cq ≤ 1000000)
    (dq : tq ≠ s ∧ tq ≠ s + 15 ∧ tq ≠ s + 16 ∧ tq ≠ s + 17 ∧ tq ≠ s + 18) (dql : lq ≠ s ∧ lq ≠ s + 15 ∧ lq ≠ s + 16 ∧ lq ≠ s + 17 ∧ lq ≠ s + 18) (da : la ≠ s + 16 ∧ la ≠ s + 18) (db : tb ≠ s + 15 ∧ tb ≠ s + 16 ∧ lb ≠ s + 15 ∧ lb ≠ s + 16 ∧ lb ≠ s + 18)
    (hva : va < 1000000000 ^ 127) (hvb : vb < 1000000000 ^ 127) (hfit : va < 1000000000 ^ (cq - 1) * vb) :
    am_c X (d + 2) 89 [.ref s, .ref tq, .ref ta, .ref tb] h (fun r h' => r = none ∧ isW h' tq lq cq (va / vb) ∧ isW h' (s + 15) (s + 16) 128 (va % vb) ∧ (∃ w, isW h' (s + 17) (s + 18) 128 w) ∧ fr [tq, lq, s + 15, s + 16, s + 17, s + 18] h h') := by
  obtain ⟨gb, nb, c_b, c_bl, b1, b2, b3⟩ := id hb
  have n0 : 0 < nb := by
    rcases Nat.eq_zero_or_pos nb with q | q
    · subst q
      have : nv gb 0 = 0 := rfl
      omega
    · exact q
  have hf := wFac_in b2
  have va0 := ha.ex
  have c_s : h[s]? = some (arCell s) := hs
  unfold arCell at c_s
  obtain ⟨f, ef⟩ : ∃ f, f = wFac gb nb := ⟨_, rfl⟩
  rw [← ef] at hf
  have fa : f * va ≤ 500000000 * va := Int.mul_le_mul_of_nonneg_right (by omega) (by omega)
  have fb : f * vb ≤ 500000000 * vb := Int.mul_le_mul_of_nonneg_right (by omega) (by omega)
  have fa0 : 0 ≤ f * va := Int.mul_nonneg (by omega) (by omega)
  have pw : (1000000000 : Int) ^ 128 = 1000000000 ^ 127 * 1000000000 := Int.pow_succ _ _
  have fits1 : f * va < 1000000000 ^ 128 := by rw [pw]; omega
  have fits2 : f * vb < 1000000000 ^ 128 := by rw [pw]; omega
  refine am_c.of (Nat.le_of_ble_eq_true rfl) ?_
  show am_w _ _ _ (_, [_, _, _, _, _, _, _, _, _, _, _, _, _], _, _) _
  refine wr_aload_n rfl rfl rfl ?_
  refine wr_cv0 (k' := 90) (ci := 5) rfl rfl rfl rfl (by assumption) rfl rfl (wp_factor c_b c_bl (by omega) b1 b2) (fun r h2 q => ?_)
  obtain ⟨rfl, hh⟩ := q
  rw [← ef, hh]
  clear hh h2
  dsimp only [Option.toList, List.cons_append, List.nil_append]
  obtain ⟨gr0, nr0, c_r0, c_rl0, -⟩ := id hr
  refine wr_lstore (ls' := [_, _, _, _, _, _, _, _, _, _, _, _, _]) rfl rfl (Nat.le_of_ble_eq_true rfl) rfl ?_
  refine wr_aload_n rfl rfl rfl ?_
  refine wr_get (ci := 4) (f := 7) rfl rfl rfl (by assumption) rfl ?_
  refine wr_aload_n rfl rfl rfl ?_
  refine wr_lload rfl rfl rfl ?_
  refine wr_cv2 (k' := 91) (ci := 5) rfl rfl rfl rfl (by assumption) rfl rfl (wp_scale hr ha (by omega) (by omega) (by omega) hf fits1) (fun r h3 q => ?_)
  obtain ⟨rfl, hr3, f3⟩ := q
  dsimp only [Option.toList, List.nil_append]
  have e_s : h3[s]? = some (arCell s) := by rw [f3.2 s (by simp)]; exact hs
  unfold arCell at e_s
  have hdv3 := hdv.kept f3 (by simp) (by simp)
  have hb3 := hb.kept f3 (by simp; omega) (by simp; omega)
  obtain ⟨gd0, nd0, c_d0, c_dl0, -⟩ := id hdv3
  refine wr_aload_n rfl rfl rfl ?_
  refine wr_get (ci := 4) (f := 8) rfl rfl rfl (by assumption) rfl ?_
  refine wr_aload_n rfl rfl rfl ?_
  refine wr_lload rfl rfl rfl ?_
  refine wr_cv2 (k' := 91) (ci := 5) rfl rfl rfl rfl (by assumption) rfl rfl (wp_scale hdv3 hb3 (by omega) (by omega) (by omega) hf fits2) (fun r h4 q => ?_)
  obtain ⟨rfl, hd4, f4⟩ := q
  dsimp only [Option.toList, List.nil_append]
  have f34 : fr [s + 15, s + 16, s + 17, s + 18] h h4 := fr_tr f3 f4 (fun i hi => by simp at hi ⊢; omega) (fun i hi => by simp at hi ⊢; omega)
  have i_s : h4[s]? = some (arCell s) := by rw [f34.2 s (by simp)]; exact hs
  have i_s' := i_s
  unfold arCell at i_s
  have hr4 := hr3.kept f4 (by simp) (by simp)
  have hq4 := hq.kept f34 (by simp; omega) (by simp; omega)
  obtain ⟨gr, nr, c_r, c_rl, r1, r2, r3⟩ := id hr4
  obtain ⟨gd, nd, c_d, c_dl, d1, d2, d3⟩ := id hd4
  obtain ⟨gq, nq, c_q, c_ql, q1, q2, q3⟩ := id hq4
  have hqne : lq ≠ tq := fun e => am_oa c_q c_ql e.symm
  obtain ⟨nd1, hdt⟩ := fac_top b2 n0 d2 (by rw [d3, ef, b3])
  have dB := nv_nonneg d2.1
  have dL := nv_low d2 nd1
  have rB := nv_nonneg r2.1
  have hpl : (nr : Int) - nd < cq := by
    rcases Int.lt_or_le ((nr : Int) - nd) cq with q | q
    · exact q
    · have y1 := nv_low r2 (by omega)
      have y2 : f * va < f * (1000000000 ^ (cq - 1) * vb) := Int.mul_lt_mul_of_pos_left hfit (by omega)
      have y3 : 1000000000 ^ (cq - 1) * (f * vb) < 1000000000 ^ (cq - 1) * 1000000000 ^ nd := Int.mul_lt_mul_of_pos_left (by omega) (bp_pos _)
      rw [← Int.pow_add] at y3
      have y4 := bp_mono (m := cq - 1 + nd) (n := nr - 1) (by omega)
      have e1 : f * (1000000000 ^ (cq - 1) * vb) = 1000000000 ^ (cq - 1) * (f * vb) := by grind
      omega
  refine wr_aload_n rfl rfl rfl ?_
  refine wr_get (ci := 4) (f := 7) rfl rfl rfl (by assumption) rfl ?_
  refine wr_get (ci := 5) (f := 1) rfl rfl rfl (by assumption) rfl ?_
  refine wr_aload_n rfl rfl rfl ?_
  refine wr_get (ci := 4) (f := 8) rfl rfl rfl (by assumption) rfl ?_
  refine wr_get (ci := 5) (f := 1) rfl rfl rfl (by assumption) rfl ?_
  refine wr_isub rfl rfl ?_
  refine wr_istore (ls' := [_, _, _, _, _, _, _, _, _, _, _, _, _]) rfl rfl (Nat.le_of_ble_eq_true rfl) rfl ?_
  refine wr_aload_n rfl rfl rfl ?_
  refine wr_iload rfl rfl rfl ?_
  refine wr_iconst rfl rfl ?_
  refine wr_iadd rfl rfl ?_
  refine wr_cv1 (k' := 92) (ci := 5) rfl rfl rfl rfl (by assumption) rfl rfl (wp_beginDigits c_q c_ql (by omega) (by omega)) (fun r h5 q => ?_)
  obtain ⟨rfl, e5⟩ := q
  dsimp only [Option.toList, List.nil_append]
  have f5 : fr [tq] h4 h5 := by
    rw [e5]
    exact ⟨by simp, fun i hi => am_set_n (fun q => hi (by simp [q]))⟩
  have j_s : h5[s]? = some (arCell s) := by rw [f5.2 s (by simp; omega)]; exact i_s'
  have j_d : h5[s + 17]? = some (.inr (cWh, [.ref (s + 18), .int (iI nd)])) := by rw [f5.2 _ (by simp; omega)]; exact c_d
  have j_dl : h5[s + 18]? = some (am_la 128 gd) := by rw [f5.2 _ (by simp; omega)]; exact c_dl
  have hr5 := hr4.kept f5 (by simp; omega) (by simp; omega)
  have j_q : h5[tq]? = some (.inr (cWh, [.ref lq, .int (iI (max 0 ((nr : Int) - nd + 1)))])) := by rw [e5]; exact am_set_s c_q
  have j_ql : h5[lq]? = some (am_la cq gq) := by rw [f5.2 lq (by simp; exact hqne)]; exact c_ql
  have J : ∀ (N : Nat), N ≤ cq → ∀ (h1 : am_H) (gq : Nat → Int) (sz : Nat) (R : Int), fr [tq, lq, s + 15, s + 16] h5 h1 → isW h1 (s + 15) (s + 16) 128 R → h1[tq]? = some (.inr (cWh, [.ref lq, .int (iI sz)])) → h1[lq]? = some (am_la cq gq) → nv gq N * nv gd nd + R = f * va → R < nv gd nd → (∀ j, j < N → 0 ≤ gq j ∧ gq j < 1000000000) → top gq sz N → am_w X (d + 1) 89 (152, [.ref s, .ref tq, .ref ta, .ref tb, .long (lI f), am_U, .int (iI ((nr : Int) - nd)), am_U, am_U, am_U, am_U, am_U, am_U], [], h1) (fun r h' => r = none ∧ isW h' tq lq cq (va / vb) ∧ isW h' (s + 15) (s + 16) 128 (va % vb) ∧ (∃ w, isW h' (s + 17) (s + 18) 128 w) ∧ fr [tq, lq, s + 15, s + 16, s + 17, s + 18] h h') := by
    intro N hN h1 gq sz R f1 W1 k_q k_ql he hR hg ht
    have R0 := W1.ex
    have k_s : h1[s]? = some (arCell s) := by rw [f1.2 s (by simp; omega)]; exact j_s
    unfold arCell at k_s
    obtain ⟨gx, nx, k_r, k_rl, -⟩ := id W1
    rw [d3] at he hR
    have eR : R = f * (va - nv gq N * vb) := by
      have : nv gq N * (f * vb) = f * (nv gq N * vb) := by grind
      rw [Int.mul_sub]
      omega
    have m1 : 0 ≤ va - nv gq N * vb := by
      rcases Int.lt_or_le (va - nv gq N * vb) 0 with q | q
      · have : f * (va - nv gq N * vb) ≤ f * (-1) := Int.mul_le_mul_of_nonneg_left (by omega) (by omega)
        omega
      · exact q
    have m2 : va - nv gq N * vb < vb := by
      rcases Int.lt_or_le (va - nv gq N * vb) vb with q | q
      · exact q
      · have : f * vb ≤ f * (va - nv gq N * vb) := Int.mul_le_mul_of_nonneg_left q (by omega)
        omega
    have eq1 : va / vb = nv gq sz := by
      rw [← top_nv ht]
      have : va = (va - nv gq N * vb) + nv gq N * vb := by omega
      rw [this, Int.add_mul_ediv_right _ _ (by omega), Int.ediv_eq_zero_of_lt m1 m2]
      omega
    have eq2 : va % vb = va - nv gq N * vb := by
      have y1 := Int.mul_ediv_add_emod va vb
      rw [eq1, ← top_nv ht, Int.mul_comm] at y1
      omega
    have eq3 : R / f = va % vb := by
      rw [eR, eq2, Int.mul_ediv_cancel_left _ (by omega)]
    refine wr_aload_n rfl rfl rfl ?_
    refine wr_get (ci := 4) (f := 7) rfl rfl rfl (by assumption) rfl ?_
    refine wr_lload rfl rfl rfl ?_
    refine wr_cv1 (k' := 96) (ci := 5) rfl rfl rfl rfl (by assumption) rfl rfl (wp_unscale W1 (by omega) (by omega)) (fun r h6 q => ?_)
    obtain ⟨rfl, W6, f6⟩ := q
    dsimp only [Option.toList, List.nil_append]
    refine wr_vret rfl rfl ?_
    rw [eq3] at W6
    refine ⟨rfl, ?_, W6, ?_, ?_⟩
    · have hsz := ht.1
      have Wq : isW h1 tq lq cq (nv gq sz) := ⟨gq, sz, k_q, k_ql, by omega, ⟨fun j hj => hg j (by omega), ht.2.2⟩, rfl⟩
      rw [eq1]
      exact Wq.kept f6 (by simp; omega) (by simp; omega)
    · have Wd : isW h1 (s + 17) (s + 18) 128 (nv gd nd) := ⟨gd, nd, by rw [f1.2 _ (by simp; omega)]; exact j_d, by rw [f1.2 _ (by simp; omega)]; exact j_dl, d1, d2, rfl⟩
      exact ⟨_, Wd.kept f6 (by simp) (by simp)⟩
    · refine fr_tr (fr_tr (U := [tq, lq, s + 15, s + 16, s + 17, s + 18]) (fr_tr (U := [tq, lq, s + 15, s + 16, s + 17, s + 18]) f34 f5 (fun i hi => by simp at hi ⊢; omega) (fun i hi => by simp at hi ⊢; omega)) f1 (fun i hi => hi) (fun i hi => by simp at hi ⊢; omega)) f6 (fun i hi => hi) (fun i hi => by simp at hi ⊢; omega)
  refine wr_iload rfl rfl rfl ?_
  refine wr_istore (ls' := [_, _, _, _, _, _, _, _, _, _, _, _, _]) rfl rfl (Nat.le_of_ble_eq_true rfl) rfl ?_
  rcases Int.lt_or_le ((nr : Int) - nd) 0 with hneg | hpos
  ·
    have hlt : f * va < nv gd nd := by
      have y2 := bp_mono (m := nr) (n := nd - 1) (by omega)
      omega
    have e0 : max 0 ((nr : Int) - nd + 1) = ((0 : Nat) : Int) := by omega
    rw [e0] at j_q
    refine wr_iload rfl rfl rfl ?_
    refine wr_if_lt rfl rfl rfl (by omega) (fun c57 => ?_) (fun c57 => ?_)
    ·
      refine am_w.wk (ls' := [_, _, _, _, _, _, _, am_U, _, _, _, _, _]) ⟨Or.inr rfl, Or.inr rfl, Or.inr rfl, Or.inr rfl, Or.inr rfl, Or.inr rfl, Or.inr rfl, Or.inl rfl, Or.inr rfl, Or.inr rfl, Or.inr rfl, Or.inr rfl, Or.inr rfl, trivial⟩ ?_
      exact J 0 (by omega) h5 gq 0 (f * va) (fr_rf _ _) (by rw [← r3] at hr5 ⊢; exact hr5) j_q j_ql (by rw [show nv gq 0 = 0 from rfl]; omega) hlt (fun j hj => by omega) ⟨Nat.le_refl _, fun j a b => by omega, fun a => by omega⟩
    · exfalso; omega
  ·
    obtain ⟨N, eN⟩ : ∃ N : Nat, (N : Int) = (nr : Int) - nd + 1 := ⟨nr - nd + 1, by omega⟩
    have e0 : max 0 ((nr : Int) - nd + 1) = (N : Int) := by omega
    rw [e0] at j_q
    have eI : (nr : Int) - nd = (N : Int) - 1 := by omega
    have hlt : f * va < nv gd nd * 1000000000 ^ N := by
      have y1 : 1000000000 ^ (nd - 1) * 1000000000 ^ N ≤ nv gd nd * 1000000000 ^ N := Int.mul_le_mul_of_nonneg_right dL (by have := bp_pos N; omega)
      rw [← Int.pow_add, show nd - 1 + N = nr by omega] at y1
      omega
    have K := wp_div_outer (pl := (nr : Int) - nd) (V := f * va) j_s j_d j_dl d1 d2 nd1 hdt (by omega) (by omega) (by omega) dq dql (J N (by omega)) N h5 gq N (f * va) (Nat.le_refl _) (fr_rf _ _) hr5 j_q j_ql (by rw [nh_n]; omega) hlt (fun j a b => by omega) (Nat.le_refl _) (Nat.le_refl _) (fun j a b => by omega) (fun a => by omega)
    rw [← eI] at K
    exact K
end ARB
