/-! THE CLASS'S FRACTIONS -/
abbrev cFr : Nat := 8
/-- the five cells of the fraction at f -/
abbrev fL (f : Nat) : List Nat := [f, f + 1, f + 2, f + 3, f + 4]
/-- the fraction at f, its numbers of cap limbs, is q -/
def isF (h : am_H) (f cap : Nat) (q : Rat) : Prop := h[f]? = some (.inr (cFr, [.int (iI q.num.sign), .ref (f + 1), .ref (f + 3)])) ∧ isW h (f + 1) (f + 2) cap (q.num.natAbs : Int) ∧ isW h (f + 3) (f + 4) cap (q.den : Int)
theorem isF.kept {h h' : am_H} {f cap : Nat} {q : Rat} {S : List Nat} (w : isF h f cap q) (e : fr S h h') (hS : ∀ i ∈ S, i < f ∨ f + 4 < i) : isF h' f cap q :=
  ⟨by rw [e.2 f (fun q => by have := hS _ q; omega)]; exact w.1, w.2.1.kept e (fun q => by have := hS _ q; omega) (fun q => by have := hS _ q; omega), w.2.2.kept e (fun q => by have := hS _ q; omega) (fun q => by have := hS _ q; omega)⟩
theorem isF.keptA {h h' : am_H} {s f cap : Nat} {q : Rat} {L : List Nat} (w : isF h f cap q) (e : frA s L h h') (hs : f + 4 < s ∨ s + 22 < f) (hL : ∀ i ∈ L, i < f ∨ f + 4 < i) : isF h' f cap q :=
  ⟨by rw [e.2 f (by omega) (fun q => by have := hL _ q; omega)]; exact w.1, w.2.1.keptA e (by omega) (by omega) (fun q => by have := hL _ q; omega) (fun q => by have := hL _ q; omega), w.2.2.keptA e (by omega) (by omega) (fun q => by have := hL _ q; omega) (fun q => by have := hL _ q; omega)⟩
theorem rat_add_parts (a b : Rat) {g k : Nat} {T : Int} (hg : g = Nat.gcd a.den b.den) (hT : T = a.num * ((b.den / g : Nat) : Int) + b.num * ((a.den / g : Nat) : Int)) (hk : k = Nat.gcd T.natAbs g) :
    (a + b).num.natAbs = T.natAbs / k ∧ (a + b).den = a.den / g * (b.den / k) ∧ (a + b).num.sign = T.sign ∧ 0 < g ∧ 0 < k ∧ k ∣ b.den := by
  have g0 : 0 < g := hg ▸ Nat.gcd_pos_of_pos_left _ a.den_pos
  have k0 : 0 < k := hk ▸ Nat.gcd_pos_of_pos_right _ g0
  have ga : a.den / g * g = a.den := Nat.div_mul_cancel (hg ▸ Nat.gcd_dvd_left ..)
  have gb : b.den / g * g = b.den := Nat.div_mul_cancel (hg ▸ Nat.gcd_dvd_right ..)
  have kg : k ∣ g := hk ▸ Nat.gcd_dvd_right ..
  have kb : k ∣ b.den := Nat.dvd_trans kg (hg ▸ Nat.gcd_dvd_right ..)
  have kT : k ∣ T.natAbs := hk ▸ Nat.gcd_dvd_left ..
  have aux : T.natAbs.gcd g = T.natAbs.gcd (a.den / g * b.den) := by
    rw [hT]
    exact Rat.add.aux a b hg rfl rfl
  have d0 : a.den / g * b.den ≠ 0 := by
    intro q
    rcases Nat.mul_eq_zero.mp q with q | q
    · rw [q, Nat.zero_mul] at ga
      exact a.den_nz ga.symm
    · exact b.den_nz q
  have e : a + b = Rat.normalize T (a.den / g * b.den) d0 := by
    rw [Rat.add_def, ← Rat.normalize_mul_right d0 (show g ≠ 0 by omega)]
    congr 1
    · rw [hT, Int.add_mul, Int.mul_assoc, Int.mul_assoc]
      congr 2
      · rw [← Int.natCast_mul, gb]
      · rw [← Int.natCast_mul, ga]
    · rw [Nat.mul_assoc, Nat.mul_comm b.den g, ← Nat.mul_assoc, ga]
  have en : (a + b).num = T / (k : Int) := by rw [e, Rat.num_normalize, ← aux, ← hk]
  have ed : (a + b).den = a.den / g * b.den / k := by rw [e, Rat.den_normalize, ← aux, ← hk]
  obtain ⟨m, hm⟩ : (k : Int) ∣ T := Int.ofNat_dvd_left.mpr kT
  have em : T / (k : Int) = m := by rw [hm, Int.mul_ediv_cancel_left _ (by omega)]
  refine ⟨?_, ?_, ?_, g0, k0, kb⟩
  · rw [en, em, hm, Int.natAbs_mul, Int.natAbs_natCast, Nat.mul_div_cancel_left _ k0]
  · rw [ed, Nat.mul_div_assoc _ kb]
  · rw [en, em, hm, Int.sign_mul, Int.sign_eq_one_of_pos (show 0 < (k : Int) by omega), Int.one_mul]
theorem sgn_sum {x y : Int} : (0 ≤ x.sign * y.sign → ((x + y).natAbs : Int) = x.natAbs + y.natAbs) ∧ (x.sign * y.sign < 0 → ((x + y).natAbs : Int) = if (y.natAbs : Int) ≤ x.natAbs then (x.natAbs : Int) - y.natAbs else (y.natAbs : Int) - x.natAbs) ∧ (x + y ≠ 0 → (x + y).sign = if (y.natAbs : Int) ≤ x.natAbs then x.sign else y.sign) := by
  rcases Int.lt_trichotomy x 0 with hx | hx | hx <;> rcases Int.lt_trichotomy y 0 with hy | hy | hy <;>
  first
  | (rw [Int.sign_eq_neg_one_of_neg hx, Int.sign_eq_neg_one_of_neg hy]; refine ⟨fun _ => by omega, fun q => by omega, fun _ => ?_⟩; rw [Int.sign_eq_neg_one_of_neg (by omega)]; split <;> rfl)
  | (rw [Int.sign_eq_one_of_pos hx, Int.sign_eq_one_of_pos hy]; refine ⟨fun _ => by omega, fun q => by omega, fun _ => ?_⟩; rw [Int.sign_eq_one_of_pos (by omega)]; split <;> rfl)
  | (subst hx; refine ⟨fun _ => by simp, fun q => by simp at q, fun q => ?_⟩; rw [Int.zero_add] at q ⊢; rw [if_neg (by omega)])
  | (subst hy; refine ⟨fun _ => by simp, fun q => by simp at q, fun q => ?_⟩; rw [Int.add_zero] at q ⊢; rw [if_pos (by omega)])
  | (rw [Int.sign_eq_neg_one_of_neg hx, Int.sign_eq_one_of_pos hy]; refine ⟨fun q => by omega, fun _ => ?_, fun q => ?_⟩
     · split <;> omega
     · split
       · exact Int.sign_eq_neg_one_of_neg (by omega)
       · exact Int.sign_eq_one_of_pos (by omega))
  | (rw [Int.sign_eq_one_of_pos hx, Int.sign_eq_neg_one_of_neg hy]; refine ⟨fun q => by omega, fun _ => ?_, fun q => ?_⟩
     · split <;> omega
     · split
       · exact Int.sign_eq_one_of_pos (by omega)
       · exact Int.sign_eq_neg_one_of_neg (by omega))
section ARF
variable {X : Nat × (Nat → Int32)}
theorem ar_prod {d s k ta la ca tb lb cb : Nat} {h : am_H} {v : Nat → Int} {va vb : Int} (hv : arV h s v) (hk : k < 11) (ha : isW h ta la ca va) (hb : isW h tb lb cb vb) (hca : ca ≤ 1000000) (hcb : cb ≤ 1000000) (hd : la ≠ s + 2 + 2 * k) (hd2 : lb ≠ s + 2 + 2 * k) (hfit : va * vb < 1000000000 ^ 127) :
    am_c X (d + 1) 97 [.ref (s + 1 + 2 * k), .ref ta, .ref tb] h (fun r h' => r = none ∧ arV h' s (updI v k (va * vb)) ∧ frA s [] h h') := by
  refine am_c.mono (wp_product (hv.2 k hk) ha hb (by omega) hca hcb (Ne.symm hd) (Ne.symm hd2) hfit) (fun r h' q => ?_)
  obtain ⟨rfl, w, f⟩ := q
  exact ⟨rfl, hv.set hk f w, frA_reg hk f⟩
theorem ar_sum {d s k ta la ca tb lb cb : Nat} {h : am_H} {v : Nat → Int} {va vb : Int} (hv : arV h s v) (hk : k < 11) (ha : isW h ta la ca va) (hb : isW h tb lb cb vb) (hca : ca ≤ 1000000) (hcb : cb ≤ 1000000) (hd2 : lb ≠ s + 2 + 2 * k) (hfit : va + vb < 1000000000 ^ 128) :
    am_c X (d + 1) 99 [.ref (s + 1 + 2 * k), .ref ta, .ref tb] h (fun r h' => r = none ∧ arV h' s (updI v k (va + vb)) ∧ frA s [] h h') := by
  refine am_c.mono (wp_sum (hv.2 k hk) ha hb (by omega) hca hcb (Ne.symm hd2) hfit) (fun r h' q => ?_)
  obtain ⟨rfl, w, f⟩ := q
  exact ⟨rfl, hv.set hk f w, frA_reg hk f⟩
theorem ar_diff {d s k ta la ca tb lb cb : Nat} {h : am_H} {v : Nat → Int} {va vb : Int} (hv : arV h s v) (hk : k < 11) (ha : isW h ta la ca va) (hb : isW h tb lb cb vb) (hca : ca ≤ 1000000) (hcb : cb ≤ 1000000) (hd : la ≠ s + 2 + 2 * k) (hd2 : lb ≠ s + 2 + 2 * k) (hfit : va < 1000000000 ^ 128) (hle : vb ≤ va) :
    am_c X (d + 1) 100 [.ref (s + 1 + 2 * k), .ref ta, .ref tb] h (fun r h' => r = none ∧ arV h' s (updI v k (va - vb)) ∧ frA s [] h h') := by
  refine am_c.mono (wp_diff (hv.2 k hk) ha hb (by omega) hca hcb (Ne.symm hd) (Ne.symm hd2) hfit hle) (fun r h' q => ?_)
  obtain ⟨rfl, w, f⟩ := q
  exact ⟨rfl, hv.set hk f w, frA_reg hk f⟩
/-- divide into a number that is not the arithmetic's -/
theorem ar_divX {d s tq lq cq ta la ca tb lb cb : Nat} {h : am_H} {v : Nat → Int} {v0 va vb : Int} (hv : arV h s v) (hq : isW h tq lq cq v0) (ha : isW h ta la ca va) (hb : isW h tb lb cb vb) (hb0 : 0 < vb) (hca : ca ≤ 1000000) (hcb : cb ≤ 1000000) (hcq : 0 < cq ∧ cq ≤ 1000000) (dq : (tq < s ∨ s + 22 < tq) ∧ (lq < s ∨ s + 22 < lq)) (da : la < s + 15 ∨ s + 18 < la) (db : (tb < s + 15 ∨ s + 18 < tb) ∧ (lb < s + 15 ∨ s + 18 < lb)) (hva : va < 1000000000 ^ 127) (hvb : vb < 1000000000 ^ 127) (hfit : va < 1000000000 ^ (cq - 1) * vb) :
    am_c X (d + 2) 89 [.ref s, .ref tq, .ref ta, .ref tb] h (fun r h' => r = none ∧ isW h' tq lq cq (va / vb) ∧ (∃ v', arV h' s v' ∧ v' 7 = va % vb ∧ (∀ j, j ≠ 7 → j ≠ 8 → v' j = v j)) ∧ frA s [tq, lq] h h') := by
  refine am_c.mono (wp_divide hv.1 (hv.2 7 (by decide)) (hv.2 8 (by decide)) hq ha hb hb0 hca hcb (by omega) (by omega) (by omega) (by omega) (by omega) hva hvb hfit) (fun r h' q => ?_)
  obtain ⟨rfl, w1, w2, ⟨w, w3⟩, f⟩ := q
  refine ⟨rfl, w1, ⟨updI (updI v 7 (va % vb)) 8 w, ⟨by rw [f.2 s (by simp; omega)]; exact hv.1, fun j hj => ?_⟩, ?_, ?_⟩, frA_of f (fun i hi => by simp at hi ⊢; omega)⟩
  · by_cases e8 : j = 8
    · subst e8; rw [updI_s]; exact w3
    · rw [updI_n e8]
      by_cases e7 : j = 7
      · subst e7; rw [updI_s]; exact w2
      · rw [updI_n e7]; exact (hv.2 j hj).kept f (by simp; omega) (by simp; omega)
  · rw [updI_n (by decide), updI_s]
  · intro j h2 h3
    rw [updI_n h3, updI_n h2]
theorem wp_lcompare {d : Nat} {h : am_H} {a b : Int} (ha : -9223372036854775808 ≤ a ∧ a ≤ 9223372036854775807) (hb : -9223372036854775808 ≤ b ∧ b ≤ 9223372036854775807) :
    am_c X (d + 1) 78 [.long (lI a), .long (lI b)] h (fun r h' => r = some (.int (iI (cmpI a b))) ∧ h' = h) := by
  refine am_c.of (Nat.le_of_ble_eq_true rfl) ?_
  show am_w _ _ _ (_, [_, _, _, _], _, _) _
  refine wr_lload_n rfl rfl rfl ?_
  refine wr_lload_n rfl rfl rfl ?_
  refine wr_l_ge rfl rfl rfl rfl rfl (by omega) (by omega) (fun c2 => ?_) (fun c2 => ?_)
  ·
    refine wr_lload_n rfl rfl rfl ?_
    refine wr_lload_n rfl rfl rfl ?_
    refine wr_l_ne rfl rfl rfl rfl rfl (by omega) (by omega) (fun c12 => ?_) (fun c12 => ?_)
    ·
      refine wr_iconst rfl rfl ?_
      refine wr_iret rfl rfl ?_
      exact ⟨by rw [show cmpI a b = 1 by unfold cmpI; rw [if_pos (by omega)]], rfl⟩
    ·
      refine wr_iconst rfl rfl ?_
      refine wr_goto rfl rfl ?_
      refine wr_iret rfl rfl ?_
      exact ⟨by rw [show cmpI a b = 0 by unfold cmpI; rw [if_neg (by omega), if_pos (by omega)]], rfl⟩
  ·
    refine wr_iconst rfl rfl ?_
    refine wr_goto rfl rfl ?_
    refine wr_iret rfl rfl ?_
    exact ⟨by rw [show cmpI a b = -1 by unfold cmpI; rw [if_neg (by omega), if_neg (by omega)]], rfl⟩
theorem cmpI_sign (a : Int) : cmpI a 0 = a.sign := by
  rcases cmpI_cases a 0 with ⟨e, h⟩ | ⟨e, h⟩ | ⟨e, h⟩
  · rw [e, Int.sign_eq_one_of_pos h]
  · rw [e, h]; rfl
  · rw [e, Int.sign_eq_neg_one_of_neg h]
end ARF
