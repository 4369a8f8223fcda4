/-! A WALK KEEPS A SIDE WELL FORMED -/
theorem slH.far {n : Nat} {off lev : Nat → Int} {sg out high way up ov : Int} {j : Nat} (S : slH n off lev sg out high way up ov j) (ho : 0 ≤ out ∧ out ≤ 2000000) (hh : -200000000000 ≤ high ∧ high ≤ 200000000000) (hv : ov ≤ 99999) : enS n off lev sg out high way up ov j ≤ 50000000000000 := by
  have r := S.root
  have po := S.pl_out
  by_cases h : j < n
  · have u := uO_in (j := j) S.ok S.hs
    have l := r.2.1 h
    exact Rat.le_trans l (Rat.le_trans (Rat.intCast_le_intCast.mpr u.2) (by decide))
  · have poq : (out : Rat) ≤ plS n off sg out j := Rat.intCast_le_intCast.mpr po
    have oq : (out : Rat) ≤ 2000000 := Rat.intCast_le_intCast.mpr ho.2
    have hu1 : (1 : Rat) ≤ up := Rat.intCast_le_intCast.mpr (show (1 : Int) ≤ up by have := S.hu; omega)
    have hvq : (ov : Rat) ≤ 99999 := Rat.intCast_le_intCast.mpr hv
    have hv0 := q_pos S.hv
    have e0 : 0 ≤ enS n off lev sg out high way up ov j - out := by
      have := r.1
      grind
    by_cases w0 : way = 0
    · have h2 := r.2.2
      unfold slE at h2
      have huq := q_pos S.hu
      have e : enS n off lev sg out high way up ov j = out := by
        rw [w0] at h2 ⊢
        generalize enS n off lev sg out high 0 up ov j = e at *
        grind
      rw [e]
      exact Rat.le_trans oq (by decide)
    · obtain ⟨d0, e⟩ := S.ref w0
      have c : ¬ (0 < j ∧ j < n) := fun q => h q.2
      have vb := vO_in (j := if j = 0 then 0 else j - 1) (sg := sg) S.ok
      have ai : -200100000000 ≤ aS n off lev sg out high j ∧ aS n off lev sg out high j ≤ 200100000000 := by
        unfold aS
        rw [if_neg c]
        split <;> omega
      have aq1 : ((-200100000000 : Int) : Rat) ≤ aS n off lev sg out high j := Rat.intCast_le_intCast.mpr ai.1
      have aq2 : (aS n off lev sg out high j : Rat) ≤ ((200100000000 : Int) : Rat) := Rat.intCast_le_intCast.mpr ai.2
      have z1 : ((-200100000000 : Int) : Rat) = -200100000000 := rfl
      have z2 : ((200100000000 : Int) : Rat) = 200100000000 := rfl
      rw [z1] at aq1
      rw [z2] at aq2
      have ds : dS n off lev sg way up ov j = -(way * up) := by unfold dS; rw [if_neg c]
      rw [ds] at e
      refine (fun key : enS n off lev sg out high way up ov j - out ≤ 20009799900000 => by clear e aq1 aq2 z1 z2 e0; grind) ?_
      generalize (aS n off lev sg out high j : Rat) = A at *
      generalize enS n off lev sg out high way up ov j - out = E at *
      rcases S.hw with ⟨rfl, -⟩ | ⟨rfl, -⟩ | ⟨rfl, -⟩
      · have e2 : E * up = -(A / 1000) * ov := by
          rw [e]
          have : ((-(1 * up) : Int) : Rat) = -(up : Rat) := by grind
          rw [this]
          grind
        have x1 := q_mul_nn e0 (show 0 ≤ (up : Rat) - 1 by grind)
        have x2 : -(A / 1000) * ov ≤ 200100000 * 99999 := by
          by_cases s : 0 ≤ -(A / 1000)
          · exact q_mul_le s (Rat.le_of_lt hv0) (by grind) hvq
          · have := q_mul_nn (a := A / 1000) (b := (ov : Rat)) (by grind) (Rat.le_of_lt hv0)
            grind
        grind
      · have e2 : E * up = (A / 1000) * ov := by
          rw [e]
          have : ((-(-1 * up) : Int) : Rat) = (up : Rat) := by grind
          rw [this]
          grind
        have x1 := q_mul_nn e0 (show 0 ≤ (up : Rat) - 1 by grind)
        have x2 : (A / 1000) * ov ≤ 200100000 * 99999 := by
          by_cases s : 0 ≤ A / 1000
          · exact q_mul_le s (Rat.le_of_lt hv0) (by grind) hvq
          · have := q_mul_nn (a := -(A / 1000)) (b := (ov : Rat)) (by grind) (Rat.le_of_lt hv0)
            grind
        grind
      · exact absurd rfl w0
section SDW
variable {n : Nat} {off lev : Nat → Int} {sg : Int} {q : Sq} {eo el : Rat}
theorem sdH.stride {k wd dn : Int} (H : sdH n off lev sg q eo el) (e0 : q.e = 0) (hN : q.N < 12) (hw : 0 ≤ wd ∧ wd ≤ 99999) (hd : -99999 ≤ dn ∧ dn ≤ 99999) : sdH n off lev sg (wStride q k wd dn) eo el := by
  obtain ⟨ok, o0, mono, reg, fin, z0⟩ := H
  have ok2 := ok.add (k := k) hN hw hd
  unfold wStride Sq.add at ok2 ⊢
  refine ⟨ok2, ?_, fun i hi => ?_, fun i hi _ => ?_, fun c => ?_, ?_⟩
  · show updI q.ou (q.N + 1) (q.ou q.N + wd) 0 = 0
    rw [updI_n (by omega)]; exact o0
  · have hi : i < q.N + 1 := hi
    show updI q.ou (q.N + 1) (q.ou q.N + wd) i ≤ updI q.ou (q.N + 1) (q.ou q.N + wd) (i + 1)
    rw [updI_n (by omega)]
    by_cases c : i = q.N
    · rw [c, updI_s]; omega
    · rw [updI_n (by omega)]; exact mono i (by omega)
  · have hi : i < q.N + 1 := hi
    show (updI q.hi (q.N + 1) (q.hi q.N - (if k = 3 then 1000 * dn else wd * dn)) (i + 1) - updI q.hi (q.N + 1) (q.hi q.N - (if k = 3 then 1000 * dn else wd * dn)) i) * updI q.ru (q.N + 1) (if k = 3 then wd else 1000) (i + 1) = 1000 * updI q.ri (q.N + 1) (-dn) (i + 1) * (updI q.ou (q.N + 1) (q.ou q.N + wd) (i + 1) - updI q.ou (q.N + 1) (q.ou q.N + wd) i) ∧ (-99999 ≤ updI q.ri (q.N + 1) (-dn) (i + 1) ∧ updI q.ri (q.N + 1) (-dn) (i + 1) ≤ 99999) ∧ (0 ≤ updI q.ru (q.N + 1) (if k = 3 then wd else 1000) (i + 1) ∧ updI q.ru (q.N + 1) (if k = 3 then wd else 1000) (i + 1) ≤ 99999) ∧ (updI q.ou (q.N + 1) (q.ou q.N + wd) i < updI q.ou (q.N + 1) (q.ou q.N + wd) (i + 1) → 0 < updI q.ru (q.N + 1) (if k = 3 then wd else 1000) (i + 1))
    by_cases c : i = q.N
    · subst c
      simp only [updI_s]
      rw [updI_n (by omega), updI_n (by omega)]
      refine ⟨?_, by omega, ?_, fun h => ?_⟩
      · split
        · have : (q.hi q.N - 1000 * dn - q.hi q.N) = -(1000 * dn) := by omega
          rw [this, show q.ou q.N + wd - q.ou q.N = wd by omega, Int.mul_neg, Int.neg_mul]
        · have : (q.hi q.N - wd * dn - q.hi q.N) = -(wd * dn) := by omega
          rw [this, show q.ou q.N + wd - q.ou q.N = wd by omega]
          clear this reg fin mono
          grind
      · split <;> omega
      · split <;> omega
    · rw [updI_n (by omega), updI_n (by omega), updI_n (by omega), updI_n (by omega), updI_n (by omega), updI_n (by omega)]
      exact reg i (by omega) (Or.inl e0)
  · exact absurd (show q.e = 1 from c) (by omega)
  · show updI q.ri (q.N + 1) (-dn) 0 = 0 ∧ updI q.ru (q.N + 1) (if k = 3 then wd else 1000) 0 = 1
    rw [updI_n (by omega), updI_n (by omega)]
    exact z0
theorem sdH.wend {c rs rn : Int} {eo' el' : Rat} (H : sdH n off lev sg q eo el) (e0 : q.e = 0) (hN : q.N < 12) (h1 : (q.ou q.N : Rat) ≤ eo' ∧ eo' ≤ 50000000000000) (h2 : Lo n off lev sg eo' = el') (h3 : (-99999 ≤ rs ∧ rs ≤ 99999) ∧ 0 < rn ∧ rn ≤ 99999) (h4 : (q.ou q.N : Rat) < eo' → el' = (q.hi q.N : Rat) / 1000 + (rs : Rat) / rn * (eo' - q.ou q.N)) (h5 : ∃ a d : Int, eo' = (a : Rat) / (d : Rat) ∧ 0 < d ∧ d ≤ 60000000000000 ∧ -10000000000000000000000 ≤ a ∧ a ≤ 10000000000000000000000) : sdH n off lev sg (wEnd q c rs rn) eo' el' := by
  obtain ⟨ok, o0, mono, reg, fin, z0⟩ := H
  have ok2 := ok.fin (c := c) (rs := rs) (rn := rn) hN
  unfold wEnd at ok2 ⊢
  refine ⟨ok2, ?_, fun i hi => ?_, fun i hi hh => ?_, fun _ => ?_, ?_⟩
  · show updI q.ou (q.N + 1) (q.ou q.N + 0) 0 = 0
    rw [updI_n (by omega)]; exact o0
  · have hi : i < q.N + 1 := hi
    show updI q.ou (q.N + 1) (q.ou q.N + 0) i ≤ updI q.ou (q.N + 1) (q.ou q.N + 0) (i + 1)
    rw [updI_n (by omega)]
    by_cases c : i = q.N
    · rw [c, updI_s]; omega
    · rw [updI_n (by omega)]; exact mono i (by omega)
  · have hi : i < q.N + 1 := hi
    have hh : (1 : Int) = 0 ∨ i + 1 < q.N + 1 := hh
    show (updI q.hi (q.N + 1) (q.hi q.N - 0) (i + 1) - updI q.hi (q.N + 1) (q.hi q.N - 0) i) * updI q.ru (q.N + 1) rn (i + 1) = 1000 * updI q.ri (q.N + 1) rs (i + 1) * (updI q.ou (q.N + 1) (q.ou q.N + 0) (i + 1) - updI q.ou (q.N + 1) (q.ou q.N + 0) i) ∧ (-99999 ≤ updI q.ri (q.N + 1) rs (i + 1) ∧ updI q.ri (q.N + 1) rs (i + 1) ≤ 99999) ∧ (0 ≤ updI q.ru (q.N + 1) rn (i + 1) ∧ updI q.ru (q.N + 1) rn (i + 1) ≤ 99999) ∧ (updI q.ou (q.N + 1) (q.ou q.N + 0) i < updI q.ou (q.N + 1) (q.ou q.N + 0) (i + 1) → 0 < updI q.ru (q.N + 1) rn (i + 1))
    rw [updI_n (by omega), updI_n (by omega), updI_n (by omega), updI_n (by omega), updI_n (by omega), updI_n (by omega)]
    exact reg i (by omega) (Or.inl e0)
  · show 0 < q.N + 1 ∧ updI q.ou (q.N + 1) (q.ou q.N + 0) (q.N + 1) = updI q.ou (q.N + 1) (q.ou q.N + 0) (q.N + 1 - 1) ∧ updI q.hi (q.N + 1) (q.hi q.N - 0) (q.N + 1) = updI q.hi (q.N + 1) (q.hi q.N - 0) (q.N + 1 - 1) ∧ ((updI q.ou (q.N + 1) (q.ou q.N + 0) (q.N + 1) : Rat) ≤ eo' ∧ eo' ≤ 50000000000000) ∧ Lo n off lev sg eo' = el' ∧ ((-99999 ≤ updI q.ri (q.N + 1) rs (q.N + 1) ∧ updI q.ri (q.N + 1) rs (q.N + 1) ≤ 99999) ∧ 0 < updI q.ru (q.N + 1) rn (q.N + 1) ∧ updI q.ru (q.N + 1) rn (q.N + 1) ≤ 99999) ∧ ((updI q.ou (q.N + 1) (q.ou q.N + 0) (q.N + 1) : Rat) < eo' → el' = (updI q.hi (q.N + 1) (q.hi q.N - 0) (q.N + 1) : Rat) / 1000 + (updI q.ri (q.N + 1) rs (q.N + 1) : Rat) / updI q.ru (q.N + 1) rn (q.N + 1) * (eo' - updI q.ou (q.N + 1) (q.ou q.N + 0) (q.N + 1))) ∧ (∃ a d : Int, eo' = (a : Rat) / (d : Rat) ∧ 0 < d ∧ d ≤ 60000000000000 ∧ -10000000000000000000000 ≤ a ∧ a ≤ 10000000000000000000000)
    rw [Nat.add_sub_cancel]
    simp only [updI_s]
    rw [updI_n (by omega), updI_n (by omega), Int.add_zero, Int.sub_zero]
    exact ⟨by omega, rfl, rfl, h1, h2, h3, h4, h5⟩
  · show updI q.ri (q.N + 1) rs 0 = 0 ∧ updI q.ru (q.N + 1) rn 0 = 1
    rw [updI_n (by omega), updI_n (by omega)]
    exact z0
end SDW
section SDX
variable {kd fi se ta : Nat → Int} {n : Nat} {off lev : Nat → Int} {sg bank : Int}
theorem sdH.step {w : WS} {k : Nat} (H : sdH n off lev sg w.s w.eo w.el) (ok : okG n off lev) (hs : sg = 1 ∨ sg = -1) (hb : -150 ≤ bank ∧ bank ≤ 150) (e0 : w.s.e = 0) (row : rowOK kd fi se k) (hN : kd k ≠ 10 → w.s.N < 12) : sdH n off lev sg (wStep kd fi se ta n off lev sg bank w k).1.s (wStep kd fi se ta n off lev sg bank w k).1.eo (wStep kd fi se ta n off lev sg bank w k).1.el := by
  obtain ⟨r1, r2, r3, r4, r5, r6, r7, r8⟩ := row
  have oN := H.ok.1
  have o1 := H.ok.2.2.1 w.s.N (Nat.le_refl _)
  have o2 := H.ok.2.2.2 w.s.N (Nat.le_refl _)
  unfold wStep
  by_cases c10 : kd k = 10
  · rw [if_pos c10]; exact H
  rw [if_neg c10]
  have hN := hN c10
  by_cases c6 : 6 ≤ kd k
  · rw [if_pos c6]
    split
    · exact H
    · exact H
  rw [if_neg c6]
  by_cases c4 : kd k = 4
  · rw [if_pos c4]
    have r7 := r7 c4
    have SH := slH_of (n := n) (off := off) (lev := lev) (sg := sg) (out := w.s.ou w.s.N) (high := w.s.hi w.s.N) (up := fi k) (ov := se k) (way := (gapS n off lev sg (w.s.ou w.s.N) (w.s.hi w.s.N)).sign) ok hs (by omega) (by omega) rfl
    have lv := SH.level
    have wi : -1 ≤ (gapS n off lev sg (w.s.ou w.s.N) (w.s.hi w.s.N)).sign ∧ (gapS n off lev sg (w.s.ou w.s.N) (w.s.hi w.s.N)).sign ≤ 1 := by
      rcases Int.lt_trichotomy (gapS n off lev sg (w.s.ou w.s.N) (w.s.hi w.s.N)) 0 with c | c | c
      · rw [Int.sign_eq_neg_one_of_neg c]; decide
      · rw [c]; decide
      · rw [Int.sign_eq_one_of_pos c]; decide
    have wm := mulB (a := (gapS n off lev sg (w.s.ou w.s.N) (w.s.hi w.s.N)).sign) (b := fi k) (A := 1) (B := 99999) wi (by omega)
    have e1 : (((gapS n off lev sg (w.s.ou w.s.N) (w.s.hi w.s.N)).sign * fi k : Int) : Rat) = (((gapS n off lev sg (w.s.ou w.s.N) (w.s.hi w.s.N)).sign : Int) : Rat) * fi k := by grind
    have wr : -99999 ≤ (wGap n off lev sg w.s).sign * fi k ∧ (wGap n off lev sg w.s).sign * fi k ≤ 99999 := by unfold wGap; omega
    refine H.wend e0 hN ⟨lv.2, SH.far (by omega) (by omega) (by omega)⟩ ?_ ⟨wr, by omega⟩ (fun _ => rfl) (SH.size (by omega) (by omega) (by omega) (by omega))
    show Lo n off lev sg _ = elS n off lev sg (w.s.ou w.s.N) (w.s.hi w.s.N) (fi k) (se k)
    unfold elS
    rw [e1]
    exact lv.1
  rw [if_neg c4]
  by_cases c5 : kd k = 5
  · rw [if_pos c5]
    have d1 : Rat.divInt (w.s.ou w.s.N) 1 = ((w.s.ou w.s.N : Int) : Rat) := by rw [divQ]; grind
    refine H.wend e0 hN ⟨by show _ ≤ Rat.divInt _ 1; rw [d1]; exact Rat.le_refl, by show Rat.divInt _ 1 ≤ _; rw [d1]; exact Rat.le_trans (Rat.intCast_le_intCast.mpr (show w.s.ou w.s.N ≤ 2000000 by omega)) (by decide)⟩ ?_ ⟨by omega, by omega, by omega⟩ (fun q => ?_) ⟨w.s.ou w.s.N, 1, (show Rat.divInt (w.s.ou w.s.N) 1 = _ from divQ _ _), by omega, by omega, by omega, by omega⟩
    · show Lo n off lev sg (Rat.divInt (w.s.ou w.s.N) 1) = Rat.divInt (gU n off lev (sg * w.s.ou w.s.N)) (gL n off (sg * w.s.ou w.s.N))
      rw [d1, GrQ_int ok]
      unfold Lo
      congr 1
      grind
    · have q : ((w.s.ou w.s.N : Int) : Rat) < Rat.divInt (w.s.ou w.s.N) 1 := q
      rw [d1] at q
      exact absurd q Rat.lt_irrefl
  · rw [if_neg c5]
    refine H.stride e0 hN (by omega) ?_
    split
    · rcases hs with rfl | rfl <;> omega
    · omega
/-- the whole walk of a side -/
theorem wLoop_ok {en : Int} {st c0 : Nat} (ok : okG n off lev) (hs : sg = 1 ∨ sg = -1) (hb : -150 ≤ bank ∧ bank ≤ 150) (row : ∀ k : Nat, (k : Int) < en → rowOK kd fi se k) (tar : ∀ k : Nat, st ≤ k → (k : Int) < en → 6 ≤ kd k → (k : Int) < ta k ∧ ta k ≤ en) (hc : cntR kd st (en.toNat - st) ≤ 12) : ∀ (m : Nat) (w : WS) (k : Nat), InvW kd st c0 w k → (k : Int) ≤ en → sdH n off lev sg w.s w.eo w.el → sdH n off lev sg (wLoop kd fi se ta n off lev sg bank en m w k).s (wLoop kd fi se ta n off lev sg bank en m w k).eo (wLoop kd fi se ta n off lev sg bank en m w k).el ∧ (wLoop kd fi se ta n off lev sg bank en m w k).s.N + ((wLoop kd fi se ta n off lev sg bank en m w k).ch - c0) ≤ 12 ∧ c0 ≤ (wLoop kd fi se ta n off lev sg bank en m w k).ch
  | 0, w, k, I, hk, H => by
    have := cntR_mono (kd := kd) (b := st) (show k - st ≤ en.toNat - st by omega)
    have := I.cnt
    exact ⟨H, by show w.s.N + (w.ch - c0) ≤ 12; omega, I.c0l⟩
  | m + 1, w, k, I, hk, H => by
    rw [wLoop]
    split
    · rename_i c
      have nx := InvW.next (n := n) (off := off) (lev := lev) (sg := sg) (bank := bank) (fi := fi) (se := se) (ta := ta) I c.1 hc (row k c.1) (fun q => tar k I.stk c.1 q) hs hb
      obtain ⟨I2, n1, n2, n12, nN⟩ := nx
      exact wLoop_ok ok hs hb row tar hc m _ _ I2 n2 (H.step ok hs hb c.2 (row k c.1) (fun q => by have := nN q; omega))
    · have := cntR_mono (kd := kd) (b := st) (show k - st ≤ en.toNat - st by omega)
      have := I.cnt
      exact ⟨H, by omega, I.c0l⟩
end SDX
