/-! THE REFERENCE WALKS: slopes, whole -/
section RSB
variable {X : Nat × (Nat → Int32)} {h0 h h' : am_H} {o o3 : Nat → Int} {A A3 : Nat → Nat → Int} {F F3 : Nat → Rat} {n : Nat} {off lev : Nat → Int} {sg out high way up ov : Int}
theorem aS_in {j : Nat} (ok : okG n off lev) (hs : sg = 1 ∨ sg = -1) (ho : 0 ≤ out ∧ out ≤ 2000000) (hh : -200000000000 ≤ high ∧ high ≤ 200000000000) : -1000000000000000000 ≤ aS n off lev sg out high j ∧ aS n off lev sg out high j ≤ 1000000000000000000 := by
  have u1 := uO_in (j := j) ok hs
  have u2 := uO_in (j := j - 1) ok hs
  have v1 := vO_in (j := j) (sg := sg) ok
  have v2 := vO_in (j := j - 1) (sg := sg) ok
  have v3 := vO_in (j := if j = 0 then 0 else j - 1) (sg := sg) ok
  unfold aS
  have m1 := mulB (a := high - 1000 * vO n lev sg (j - 1)) (b := uO n off sg j - uO n off sg (j - 1)) (A := 200100000000) (B := 200000) (by omega) (by omega)
  have m2 := mulB (a := 1000 * (vO n lev sg j - vO n lev sg (j - 1))) (b := uO n off sg (j - 1) - out) (A := 200000000) (B := 2100000) (by omega) (by omega)
  split
  · omega
  · split <;> omega
theorem dS_in {j : Nat} (ok : okG n off lev) (hs : sg = 1 ∨ sg = -1) (hw : way = 1 ∨ way = -1) (hu : 0 < up ∧ up ≤ 99999) (hv : 0 < ov ∧ ov ≤ 99999) : -1000000000000 ≤ dS n off lev sg way up ov j ∧ dS n off lev sg way up ov j ≤ 1000000000000 := by
  have u1 := uO_in (j := j) ok hs
  have u2 := uO_in (j := j - 1) ok hs
  have v1 := vO_in (j := j) (sg := sg) ok
  have v2 := vO_in (j := j - 1) (sg := sg) ok
  have wu : -99999 ≤ way * up ∧ way * up ≤ 99999 := by rcases hw with rfl | rfl <;> omega
  unfold dS
  have m1 := mulB (a := vO n lev sg j - vO n lev sg (j - 1)) (b := ov) (A := 200000) (B := 99999) (by omega) (by omega)
  have m2 := mulB (a := way * up) (b := uO n off sg j - uO n off sg (j - 1)) (A := 99999) (B := 200000) (by omega) (by omega)
  split <;> omega
theorem rr_slopeA {d i j : Nat} {x3 x4 : Value} (w : FW h0 h o3 F3 A3) (g : RG n off lev o3 A3) (S : slH n off lev sg out high way up ov j) (e29 : o3 29 = sg) (e30 : o3 30 = out) (e31 : o3 31 = high) (hi : i ≤ 24) (f1 : F3 i = ((sg * out : Int) : Rat)) (f2 : F3 (26 + i) = (high : Rat) / 1000) (ho : 0 ≤ out ∧ out ≤ 2000000) (hh : -200000000000 ≤ high ∧ high ≤ 200000000000) (hw : way = 1 ∨ way = -1) (hu : 0 < up ∧ up ≤ 99999) (hv : 0 < ov ∧ ov ≤ 99999) : am_w X (d + 6) 172 (154, [.ref 164, .int (iI up), .int (iI ov), x3, x4, .int (iI i), .int (iI way), .int (iI (ixI n sg j)), am_U, am_U, am_U, am_U, am_U, am_U, am_U, am_U, am_U, am_U, am_U], [], h) (fun r h' => r = none ∧ ∃ F', FW h0 h' o3 F' A3 ∧ F' i = (sg : Rat) * enS n off lev sg out high way up ov j ∧ F' (26 + i) = (high : Rat) / 1000 + ((way * up : Int) : Rat) / ov * (enS n off lev sg out high way up ov j - out) ∧ ∀ f, f ≠ i → f ≠ 26 + i → f ≠ 94 → f ≠ 95 → F' f = F3 f) := by
  have cO := w.cO
  have cA := w.arr (p := 175) (n := 12) (by decide) (by decide)
  have cB := w.arr (p := 176) (n := 12) (by decide) (by decide)
  have ok := S.ok
  have hs := S.hs
  have jn := S.jn
  have n12 := ok.1
  obtain ⟨e19, eG⟩ := g
  obtain ⟨D0, hE⟩ := S.ref (by omega)
  have rD := dS_in (j := j) ok hs hw hu hv
  have ra := aS_in (j := j) (out := out) (high := high) ok hs ho hh
  have B : ∀ {b9 b10 s11 s13 s15 s17 : Int} {x7 x8 x12 x14 x16 x18 : Value}, ((b9 = 1 ∧ b10 = 1 ∧ (high - 1000 * s13) * s15 + 1000 * s17 * s11 = aS n off lev sg out high j) ∨ (b9 = 1 ∧ b10 = 0 ∧ (high - 1000 * s13) * s15 + 1000 * s17 * 0 = aS n off lev sg out high j) ∨ (b9 = 0 ∧ (high - 1000 * s13) * s15 + 1000 * s17 * 0 = aS n off lev sg out high j)) → s17 * ov - way * up * s15 = dS n off lev sg way up ov j → am_w X (d + 6) 172 (342, [.ref 164, .int (iI up), .int (iI ov), x3, x4, .int (iI i), .int (iI way), x7, x8, .int (iI b9), .int (iI b10), .long (lI s11), x12, .long (lI s13), x14, .long (lI s15), x16, .long (lI s17), x18], [], h) (fun r h' => r = none ∧ ∃ F', FW h0 h' o3 F' A3 ∧ F' i = (sg : Rat) * enS n off lev sg out high way up ov j ∧ F' (26 + i) = (high : Rat) / 1000 + ((way * up : Int) : Rat) / ov * (enS n off lev sg out high way up ov j - out) ∧ ∀ f, f ≠ i → f ≠ 26 + i → f ≠ 94 → f ≠ 95 → F' f = F3 f) := by
    intro b9 b10 s11 s13 s15 s17 x7 x8 x12 x14 x16 x18 c1 c2
    exact rr_slopeB w e29 e31 hs hi f1 f2 ho hh hw hu hv c1 c2 D0 rD ra hE
  clear hE D0 rD ra
  have si : -1 ≤ sg ∧ sg ≤ 1 := by omega
  obtain ⟨pv, hp⟩ : ∃ pv, pv = ixI n sg j - sg := ⟨_, rfl⟩
  obtain ⟨iv, hI⟩ : ∃ iv, iv = ixI n sg j := ⟨_, rfl⟩
  rw [← hI] at hp ⊢
  by_cases j0 : 0 < j
  · have pj : ixI n sg (j - 1) + sg = ixI n sg (j - 1 + 1) := ixI_next hs
    rw [show j - 1 + 1 = j by omega, ixI_lt (by omega), ← hI] at pj
    have pl := ixO_lt (sg := sg) (show j - 1 < n by omega)
    have pe := eG _ pl
    have po := ok.2.1 (ixO n sg (j - 1))
    have plv := ok.2.2.1 (ixO n sg (j - 1))
    have up1 : uO n off sg (j - 1) = sg * off (ixO n sg (j - 1)) := rfl
    have vp1 : vO n lev sg (j - 1) = lev (ixO n sg (j - 1)) := rfl
    obtain ⟨p, hpp⟩ : ∃ p, p = ixO n sg (j - 1) := ⟨_, rfl⟩
    rw [← hpp] at pj pl pe po plv up1 vp1
    have pvp : pv = (p : Int) := by omega
    subst pvp
    by_cases jl : j < n
    · have il := ixO_lt (sg := sg) jl
      have ie := eG _ il
      have io := ok.2.1 (ixO n sg j)
      have ilv := ok.2.2.1 (ixO n sg j)
      have ui1 : uO n off sg j = sg * off (ixO n sg j) := rfl
      have vi1 : vO n lev sg j = lev (ixO n sg j) := rfl
      rw [ixI_lt jl] at hI
      obtain ⟨q, hq⟩ : ∃ q, q = ixO n sg j := ⟨_, rfl⟩
      rw [← hq] at hI il ie io ilv ui1 vi1
      subst hI
      refine wr_iload rfl rfl rfl ?_
      refine wr_aload_n rfl rfl rfl ?_
      refine wr_get (ci := 12) (f := 29) rfl rfl rfl (by assumption) rfl ?_
      rw [e29]
      refine wr_isub rfl rfl ?_
      rw [← hp]
      refine wr_istore (ls' := [_, _, _, _, _, _, _, _, _, _, _, _, _, _, _, _, _, _, _]) rfl rfl (Nat.le_of_ble_eq_true rfl) rfl ?_
      refine wr_iload rfl rfl rfl ?_
      refine wr_if_lt rfl rfl rfl (by omega) (fun c165 => by exfalso; omega) (fun c165 => ?_)
      refine wr_iload rfl rfl rfl ?_
      refine wr_aload_n rfl rfl rfl ?_
      refine wr_get (ci := 12) (f := 19) rfl rfl rfl (by assumption) rfl ?_
      rw [e19]
      refine wr_icmp_ge rfl rfl rfl (by omega) (by omega) (fun c174 => by exfalso; omega) (fun c174 => ?_)
      refine wr_iconst rfl rfl ?_
      refine wr_goto rfl rfl ?_
      refine wr_istore (ls' := [_, _, _, _, _, _, _, _, _, _, _, _, _, _, _, _, _, _, _]) rfl rfl (Nat.le_of_ble_eq_true rfl) rfl ?_
      refine wr_iload rfl rfl rfl ?_
      refine wr_if_lt rfl rfl rfl (by omega) (fun c186 => by exfalso; omega) (fun c186 => ?_)
      refine wr_iload rfl rfl rfl ?_
      refine wr_aload_n rfl rfl rfl ?_
      refine wr_get (ci := 12) (f := 19) rfl rfl rfl (by assumption) rfl ?_
      rw [e19]
      refine wr_icmp_ge rfl rfl rfl (by omega) (by omega) (fun c195 => by exfalso; omega) (fun c195 => ?_)
      refine wr_iconst rfl rfl ?_
      refine wr_goto rfl rfl ?_
      refine wr_istore (ls' := [_, _, _, _, _, _, _, _, _, _, _, _, _, _, _, _, _, _, _]) rfl rfl (Nat.le_of_ble_eq_true rfl) rfl ?_
      refine wr_iload rfl rfl rfl ?_
      refine wr_if_eq rfl rfl rfl (by omega) (fun c207 => by exfalso; omega) (fun c207 => ?_)
      refine wr_aload_n rfl rfl rfl ?_
      refine wr_get (ci := 12) (f := 29) rfl rfl rfl (by assumption) rfl ?_
      rw [e29]
      refine wr_i2l rfl rfl (by omega) ?_
      refine wr_aload_n rfl rfl rfl ?_
      refine wr_get (ci := 12) (f := 17) rfl rfl rfl (by assumption) rfl ?_
      refine wr_iload rfl rfl rfl ?_
      refine wr_iald rfl rfl (by assumption) (by omega) (by omega) ?_
      rw [Int.toNat_natCast, pe.1]
      refine wr_i2l rfl rfl (by omega) ?_
      refine wr_lmul rfl rfl ?_
      refine wr_aload_n rfl rfl rfl ?_
      refine wr_get (ci := 12) (f := 30) rfl rfl rfl (by assumption) rfl ?_
      rw [e30]
      refine wr_lsub rfl rfl ?_
      refine wr_goto rfl rfl ?_
      refine wr_lstore (ls' := [_, _, _, _, _, _, _, _, _, _, _, _, _, _, _, _, _, _, _]) rfl rfl (Nat.le_of_ble_eq_true rfl) rfl ?_
      refine wr_aload_n rfl rfl rfl ?_
      refine wr_get (ci := 12) (f := 19) rfl rfl rfl (by assumption) rfl ?_
      rw [e19]
      refine wr_if_ne rfl rfl rfl (by omega) (fun c239 => ?_) (fun c239 => by exfalso; omega)
      refine wr_iload rfl rfl rfl ?_
      refine wr_if_eq rfl rfl rfl (by omega) (fun c248 => by exfalso; omega) (fun c248 => ?_)
      refine wr_aload_n rfl rfl rfl ?_
      refine wr_get (ci := 12) (f := 18) rfl rfl rfl (by assumption) rfl ?_
      refine wr_iload rfl rfl rfl ?_
      refine wr_iald rfl rfl (by assumption) (by omega) (by omega) ?_
      rw [Int.toNat_natCast, pe.2]
      refine wr_i2l rfl rfl (by omega) ?_
      refine wr_goto rfl rfl ?_
      refine wr_lstore (ls' := [_, _, _, _, _, _, _, _, _, _, _, _, _, _, _, _, _, _, _]) rfl rfl (Nat.le_of_ble_eq_true rfl) rfl ?_
      refine wr_iload rfl rfl rfl ?_
      refine wr_if_eq rfl rfl rfl (by omega) (fun c274 => by exfalso; omega) (fun c274 => ?_)
      refine wr_iload rfl rfl rfl ?_
      refine wr_if_eq rfl rfl rfl (by omega) (fun c279 => by exfalso; omega) (fun c279 => ?_)
      refine wr_aload_n rfl rfl rfl ?_
      refine wr_get (ci := 12) (f := 29) rfl rfl rfl (by assumption) rfl ?_
      rw [e29]
      refine wr_i2l rfl rfl (by omega) ?_
      refine wr_aload_n rfl rfl rfl ?_
      refine wr_get (ci := 12) (f := 17) rfl rfl rfl (by assumption) rfl ?_
      refine wr_iload rfl rfl rfl ?_
      refine wr_iald rfl rfl (by assumption) (by omega) (by omega) ?_
      rw [Int.toNat_natCast, ie.1]
      refine wr_aload_n rfl rfl rfl ?_
      refine wr_get (ci := 12) (f := 17) rfl rfl rfl (by assumption) rfl ?_
      refine wr_iload rfl rfl rfl ?_
      refine wr_iald rfl rfl (by assumption) (by omega) (by omega) ?_
      rw [Int.toNat_natCast, pe.1]
      refine wr_isub rfl rfl ?_
      refine wr_i2l rfl rfl (by omega) ?_
      refine wr_lmul rfl rfl ?_
      refine wr_goto rfl rfl ?_
      refine wr_lstore (ls' := [_, _, _, _, _, _, _, _, _, _, _, _, _, _, _, _, _, _, _]) rfl rfl (Nat.le_of_ble_eq_true rfl) rfl ?_
      refine wr_iload rfl rfl rfl ?_
      refine wr_if_eq rfl rfl rfl (by omega) (fun c312 => by exfalso; omega) (fun c312 => ?_)
      refine wr_iload rfl rfl rfl ?_
      refine wr_if_eq rfl rfl rfl (by omega) (fun c317 => by exfalso; omega) (fun c317 => ?_)
      refine wr_aload_n rfl rfl rfl ?_
      refine wr_get (ci := 12) (f := 18) rfl rfl rfl (by assumption) rfl ?_
      refine wr_iload rfl rfl rfl ?_
      refine wr_iald rfl rfl (by assumption) (by omega) (by omega) ?_
      rw [Int.toNat_natCast, ie.2]
      refine wr_aload_n rfl rfl rfl ?_
      refine wr_get (ci := 12) (f := 18) rfl rfl rfl (by assumption) rfl ?_
      refine wr_iload rfl rfl rfl ?_
      refine wr_iald rfl rfl (by assumption) (by omega) (by omega) ?_
      rw [Int.toNat_natCast, pe.2]
      refine wr_isub rfl rfl ?_
      refine wr_i2l rfl rfl (by omega) ?_
      refine wr_goto rfl rfl ?_
      refine wr_lstore (ls' := [_, _, _, _, _, _, _, _, _, _, _, _, _, _, _, _, _, _, _]) rfl rfl (Nat.le_of_ble_eq_true rfl) rfl ?_
      refine B (Or.inl ⟨rfl, rfl, ?_⟩) ?_
      · unfold aS
        rw [if_pos ⟨j0, jl⟩, ui1, up1, vi1, vp1]
        rw [Int.mul_sub]
      · unfold dS
        rw [if_pos ⟨j0, jl⟩, ui1, up1, vi1, vp1]
        rw [Int.mul_sub]
    · have K : am_w X (d + 6) 172 (205, [.ref 164, .int (iI up), .int (iI ov), x3, x4, .int (iI i), .int (iI way), .int (iI iv), .int (iI p), .int (iI 1), .int (iI 0), am_U, am_U, am_U, am_U, am_U, am_U, am_U, am_U], [], h) (fun r h' => r = none ∧ ∃ F', FW h0 h' o3 F' A3 ∧ F' i = (sg : Rat) * enS n off lev sg out high way up ov j ∧ F' (26 + i) = (high : Rat) / 1000 + ((way * up : Int) : Rat) / ov * (enS n off lev sg out high way up ov j - out) ∧ ∀ f, f ≠ i → f ≠ 26 + i → f ≠ 94 → f ≠ 95 → F' f = F3 f) := by
        refine wr_iload rfl rfl rfl ?_
        refine wr_if_eq rfl rfl rfl (by omega) (fun c207 => by exfalso; omega) (fun c207 => ?_)
        refine wr_aload_n rfl rfl rfl ?_
        refine wr_get (ci := 12) (f := 29) rfl rfl rfl (by assumption) rfl ?_
        rw [e29]
        refine wr_i2l rfl rfl (by omega) ?_
        refine wr_aload_n rfl rfl rfl ?_
        refine wr_get (ci := 12) (f := 17) rfl rfl rfl (by assumption) rfl ?_
        refine wr_iload rfl rfl rfl ?_
        refine wr_iald rfl rfl (by assumption) (by omega) (by omega) ?_
        rw [Int.toNat_natCast, pe.1]
        refine wr_i2l rfl rfl (by omega) ?_
        refine wr_lmul rfl rfl ?_
        refine wr_aload_n rfl rfl rfl ?_
        refine wr_get (ci := 12) (f := 30) rfl rfl rfl (by assumption) rfl ?_
        rw [e30]
        refine wr_lsub rfl rfl ?_
        refine wr_goto rfl rfl ?_
        refine wr_lstore (ls' := [_, _, _, _, _, _, _, _, _, _, _, _, _, _, _, _, _, _, _]) rfl rfl (Nat.le_of_ble_eq_true rfl) rfl ?_
        refine wr_aload_n rfl rfl rfl ?_
        refine wr_get (ci := 12) (f := 19) rfl rfl rfl (by assumption) rfl ?_
        rw [e19]
        refine wr_if_ne rfl rfl rfl (by omega) (fun c239 => ?_) (fun c239 => by exfalso; omega)
        refine wr_iload rfl rfl rfl ?_
        refine wr_if_eq rfl rfl rfl (by omega) (fun c248 => by exfalso; omega) (fun c248 => ?_)
        refine wr_aload_n rfl rfl rfl ?_
        refine wr_get (ci := 12) (f := 18) rfl rfl rfl (by assumption) rfl ?_
        refine wr_iload rfl rfl rfl ?_
        refine wr_iald rfl rfl (by assumption) (by omega) (by omega) ?_
        rw [Int.toNat_natCast, pe.2]
        refine wr_i2l rfl rfl (by omega) ?_
        refine wr_goto rfl rfl ?_
        refine wr_lstore (ls' := [_, _, _, _, _, _, _, _, _, _, _, _, _, _, _, _, _, _, _]) rfl rfl (Nat.le_of_ble_eq_true rfl) rfl ?_
        refine wr_iload rfl rfl rfl ?_
        refine wr_if_eq rfl rfl rfl (by omega) (fun c274 => by exfalso; omega) (fun c274 => ?_)
        refine wr_iload rfl rfl rfl ?_
        refine wr_if_eq rfl rfl rfl (by omega) (fun c279 => ?_) (fun c279 => by exfalso; omega)
        refine wr_lconst (z := 1) rfl rfl rfl ?_
        refine wr_lstore (ls' := [_, _, _, _, _, _, _, _, _, _, _, _, _, _, _, _, _, _, _]) rfl rfl (Nat.le_of_ble_eq_true rfl) rfl ?_
        refine wr_iload rfl rfl rfl ?_
        refine wr_if_eq rfl rfl rfl (by omega) (fun c312 => by exfalso; omega) (fun c312 => ?_)
        refine wr_iload rfl rfl rfl ?_
        refine wr_if_eq rfl rfl rfl (by omega) (fun c317 => ?_) (fun c317 => by exfalso; omega)
        refine wr_lconst (z := 0) rfl rfl rfl ?_
        refine wr_lstore (ls' := [_, _, _, _, _, _, _, _, _, _, _, _, _, _, _, _, _, _, _]) rfl rfl (Nat.le_of_ble_eq_true rfl) rfl ?_
        refine B (Or.inr (Or.inl ⟨rfl, rfl, ?_⟩)) ?_
        · unfold aS
          rw [if_neg (by omega), if_neg (by omega), if_neg (by omega), vp1]
          omega
        · unfold dS
          rw [if_neg (by omega)]
          omega
      rcases hs with rfl | rfl
      ·
        rw [ixI_1] at hI
        refine wr_iload rfl rfl rfl ?_
        refine wr_aload_n rfl rfl rfl ?_
        refine wr_get (ci := 12) (f := 29) rfl rfl rfl (by assumption) rfl ?_
        rw [e29]
        refine wr_isub rfl rfl ?_
        rw [← hp]
        refine wr_istore (ls' := [_, _, _, _, _, _, _, _, _, _, _, _, _, _, _, _, _, _, _]) rfl rfl (Nat.le_of_ble_eq_true rfl) rfl ?_
        refine wr_iload rfl rfl rfl ?_
        refine wr_if_lt rfl rfl rfl (by omega) (fun c165 => by exfalso; omega) (fun c165 => ?_)
        refine wr_iload rfl rfl rfl ?_
        refine wr_aload_n rfl rfl rfl ?_
        refine wr_get (ci := 12) (f := 19) rfl rfl rfl (by assumption) rfl ?_
        rw [e19]
        refine wr_icmp_ge rfl rfl rfl (by omega) (by omega) (fun c174 => by exfalso; omega) (fun c174 => ?_)
        refine wr_iconst rfl rfl ?_
        refine wr_goto rfl rfl ?_
        refine wr_istore (ls' := [_, _, _, _, _, _, _, _, _, _, _, _, _, _, _, _, _, _, _]) rfl rfl (Nat.le_of_ble_eq_true rfl) rfl ?_
        refine wr_iload rfl rfl rfl ?_
        refine wr_if_lt rfl rfl rfl (by omega) (fun c186 => by exfalso; omega) (fun c186 => ?_)
        refine wr_iload rfl rfl rfl ?_
        refine wr_aload_n rfl rfl rfl ?_
        refine wr_get (ci := 12) (f := 19) rfl rfl rfl (by assumption) rfl ?_
        rw [e19]
        refine wr_icmp_ge rfl rfl rfl (by omega) (by omega) (fun c195 => ?_) (fun c195 => by exfalso; omega)
        refine wr_iconst rfl rfl ?_
        refine wr_istore (ls' := [_, _, _, _, _, _, _, _, _, _, _, _, _, _, _, _, _, _, _]) rfl rfl (Nat.le_of_ble_eq_true rfl) rfl ?_
        exact K
      ·
        rw [ixI_m] at hI
        refine wr_iload rfl rfl rfl ?_
        refine wr_aload_n rfl rfl rfl ?_
        refine wr_get (ci := 12) (f := 29) rfl rfl rfl (by assumption) rfl ?_
        rw [e29]
        refine wr_isub rfl rfl ?_
        rw [← hp]
        refine wr_istore (ls' := [_, _, _, _, _, _, _, _, _, _, _, _, _, _, _, _, _, _, _]) rfl rfl (Nat.le_of_ble_eq_true rfl) rfl ?_
        refine wr_iload rfl rfl rfl ?_
        refine wr_if_lt rfl rfl rfl (by omega) (fun c165 => by exfalso; omega) (fun c165 => ?_)
        refine wr_iload rfl rfl rfl ?_
        refine wr_aload_n rfl rfl rfl ?_
        refine wr_get (ci := 12) (f := 19) rfl rfl rfl (by assumption) rfl ?_
        rw [e19]
        refine wr_icmp_ge rfl rfl rfl (by omega) (by omega) (fun c174 => by exfalso; omega) (fun c174 => ?_)
        refine wr_iconst rfl rfl ?_
        refine wr_goto rfl rfl ?_
        refine wr_istore (ls' := [_, _, _, _, _, _, _, _, _, _, _, _, _, _, _, _, _, _, _]) rfl rfl (Nat.le_of_ble_eq_true rfl) rfl ?_
        refine wr_iload rfl rfl rfl ?_
        refine wr_if_lt rfl rfl rfl (by omega) (fun c186 => ?_) (fun c186 => by exfalso; omega)
        refine wr_iconst rfl rfl ?_
        refine wr_istore (ls' := [_, _, _, _, _, _, _, _, _, _, _, _, _, _, _, _, _, _, _]) rfl rfl (Nat.le_of_ble_eq_true rfl) rfl ?_
        exact K
  · have jz : j = 0 := by omega
    by_cases jl : j < n
    · have il := ixO_lt (sg := sg) jl
      have ie := eG _ il
      have ilv := ok.2.2.1 (ixO n sg j)
      have vi1 : vO n lev sg j = lev (ixO n sg j) := rfl
      rw [ixI_lt jl] at hI
      have hI0 : iv = ixI n sg j := by rw [hI, ixI_lt jl]
      obtain ⟨q, hq⟩ : ∃ q, q = ixO n sg j := ⟨_, rfl⟩
      rw [← hq] at hI il ie ilv vi1
      subst hI
      have K : am_w X (d + 6) 172 (205, [.ref 164, .int (iI up), .int (iI ov), x3, x4, .int (iI i), .int (iI way), .int (iI q), .int (iI pv), .int (iI 0), .int (iI 1), am_U, am_U, am_U, am_U, am_U, am_U, am_U, am_U], [], h) (fun r h' => r = none ∧ ∃ F', FW h0 h' o3 F' A3 ∧ F' i = (sg : Rat) * enS n off lev sg out high way up ov j ∧ F' (26 + i) = (high : Rat) / 1000 + ((way * up : Int) : Rat) / ov * (enS n off lev sg out high way up ov j - out) ∧ ∀ f, f ≠ i → f ≠ 26 + i → f ≠ 94 → f ≠ 95 → F' f = F3 f) := by
        refine wr_iload rfl rfl rfl ?_
        refine wr_if_eq rfl rfl rfl (by omega) (fun c207 => ?_) (fun c207 => by exfalso; omega)
        refine wr_lconst (z := 0) rfl rfl rfl ?_
        refine wr_lstore (ls' := [_, _, _, _, _, _, _, _, _, _, _, _, _, _, _, _, _, _, _]) rfl rfl (Nat.le_of_ble_eq_true rfl) rfl ?_
        refine wr_aload_n rfl rfl rfl ?_
        refine wr_get (ci := 12) (f := 19) rfl rfl rfl (by assumption) rfl ?_
        rw [e19]
        refine wr_if_ne rfl rfl rfl (by omega) (fun c239 => ?_) (fun c239 => by exfalso; omega)
        refine wr_iload rfl rfl rfl ?_
        refine wr_if_eq rfl rfl rfl (by omega) (fun c248 => ?_) (fun c248 => by exfalso; omega)
        refine wr_aload_n rfl rfl rfl ?_
        refine wr_get (ci := 12) (f := 18) rfl rfl rfl (by assumption) rfl ?_
        refine wr_iload rfl rfl rfl ?_
        refine wr_iald rfl rfl (by assumption) (by omega) (by omega) ?_
        rw [Int.toNat_natCast, ie.2]
        refine wr_i2l rfl rfl (by omega) ?_
        refine wr_lstore (ls' := [_, _, _, _, _, _, _, _, _, _, _, _, _, _, _, _, _, _, _]) rfl rfl (Nat.le_of_ble_eq_true rfl) rfl ?_
        refine wr_iload rfl rfl rfl ?_
        refine wr_if_eq rfl rfl rfl (by omega) (fun c274 => ?_) (fun c274 => by exfalso; omega)
        refine wr_lconst (z := 1) rfl rfl rfl ?_
        refine wr_lstore (ls' := [_, _, _, _, _, _, _, _, _, _, _, _, _, _, _, _, _, _, _]) rfl rfl (Nat.le_of_ble_eq_true rfl) rfl ?_
        refine wr_iload rfl rfl rfl ?_
        refine wr_if_eq rfl rfl rfl (by omega) (fun c312 => ?_) (fun c312 => by exfalso; omega)
        refine wr_lconst (z := 0) rfl rfl rfl ?_
        refine wr_lstore (ls' := [_, _, _, _, _, _, _, _, _, _, _, _, _, _, _, _, _, _, _]) rfl rfl (Nat.le_of_ble_eq_true rfl) rfl ?_
        refine B (Or.inr (Or.inr ⟨rfl, ?_⟩)) ?_
        · unfold aS
          rw [if_neg (by omega), if_neg (by omega), if_pos jz, ← jz, vi1]
          omega
        · unfold dS
          rw [if_neg (by omega)]
          omega
      rcases hs with rfl | rfl
      ·
        rw [ixI_1] at hI0
        refine wr_iload rfl rfl rfl ?_
        refine wr_aload_n rfl rfl rfl ?_
        refine wr_get (ci := 12) (f := 29) rfl rfl rfl (by assumption) rfl ?_
        rw [e29]
        refine wr_isub rfl rfl ?_
        rw [← hp]
        refine wr_istore (ls' := [_, _, _, _, _, _, _, _, _, _, _, _, _, _, _, _, _, _, _]) rfl rfl (Nat.le_of_ble_eq_true rfl) rfl ?_
        refine wr_iload rfl rfl rfl ?_
        refine wr_if_lt rfl rfl rfl (by omega) (fun c165 => ?_) (fun c165 => by exfalso; omega)
        refine wr_iconst rfl rfl ?_
        refine wr_istore (ls' := [_, _, _, _, _, _, _, _, _, _, _, _, _, _, _, _, _, _, _]) rfl rfl (Nat.le_of_ble_eq_true rfl) rfl ?_
        refine wr_iload rfl rfl rfl ?_
        refine wr_if_lt rfl rfl rfl (by omega) (fun c186 => by exfalso; omega) (fun c186 => ?_)
        refine wr_iload rfl rfl rfl ?_
        refine wr_aload_n rfl rfl rfl ?_
        refine wr_get (ci := 12) (f := 19) rfl rfl rfl (by assumption) rfl ?_
        rw [e19]
        refine wr_icmp_ge rfl rfl rfl (by omega) (by omega) (fun c195 => by exfalso; omega) (fun c195 => ?_)
        refine wr_iconst rfl rfl ?_
        refine wr_goto rfl rfl ?_
        refine wr_istore (ls' := [_, _, _, _, _, _, _, _, _, _, _, _, _, _, _, _, _, _, _]) rfl rfl (Nat.le_of_ble_eq_true rfl) rfl ?_
        exact K
      ·
        rw [ixI_m] at hI0
        refine wr_iload rfl rfl rfl ?_
        refine wr_aload_n rfl rfl rfl ?_
        refine wr_get (ci := 12) (f := 29) rfl rfl rfl (by assumption) rfl ?_
        rw [e29]
        refine wr_isub rfl rfl ?_
        rw [← hp]
        refine wr_istore (ls' := [_, _, _, _, _, _, _, _, _, _, _, _, _, _, _, _, _, _, _]) rfl rfl (Nat.le_of_ble_eq_true rfl) rfl ?_
        refine wr_iload rfl rfl rfl ?_
        refine wr_if_lt rfl rfl rfl (by omega) (fun c165 => by exfalso; omega) (fun c165 => ?_)
        refine wr_iload rfl rfl rfl ?_
        refine wr_aload_n rfl rfl rfl ?_
        refine wr_get (ci := 12) (f := 19) rfl rfl rfl (by assumption) rfl ?_
        rw [e19]
        refine wr_icmp_ge rfl rfl rfl (by omega) (by omega) (fun c174 => ?_) (fun c174 => by exfalso; omega)
        refine wr_iconst rfl rfl ?_
        refine wr_istore (ls' := [_, _, _, _, _, _, _, _, _, _, _, _, _, _, _, _, _, _, _]) rfl rfl (Nat.le_of_ble_eq_true rfl) rfl ?_
        refine wr_iload rfl rfl rfl ?_
        refine wr_if_lt rfl rfl rfl (by omega) (fun c186 => by exfalso; omega) (fun c186 => ?_)
        refine wr_iload rfl rfl rfl ?_
        refine wr_aload_n rfl rfl rfl ?_
        refine wr_get (ci := 12) (f := 19) rfl rfl rfl (by assumption) rfl ?_
        rw [e19]
        refine wr_icmp_ge rfl rfl rfl (by omega) (by omega) (fun c195 => by exfalso; omega) (fun c195 => ?_)
        refine wr_iconst rfl rfl ?_
        refine wr_goto rfl rfl ?_
        refine wr_istore (ls' := [_, _, _, _, _, _, _, _, _, _, _, _, _, _, _, _, _, _, _]) rfl rfl (Nat.le_of_ble_eq_true rfl) rfl ?_
        exact K
    · have n0 : n = 0 := by omega
      have K : am_w X (d + 6) 172 (205, [.ref 164, .int (iI up), .int (iI ov), x3, x4, .int (iI i), .int (iI way), .int (iI iv), .int (iI pv), .int (iI 0), .int (iI 0), am_U, am_U, am_U, am_U, am_U, am_U, am_U, am_U], [], h) (fun r h' => r = none ∧ ∃ F', FW h0 h' o3 F' A3 ∧ F' i = (sg : Rat) * enS n off lev sg out high way up ov j ∧ F' (26 + i) = (high : Rat) / 1000 + ((way * up : Int) : Rat) / ov * (enS n off lev sg out high way up ov j - out) ∧ ∀ f, f ≠ i → f ≠ 26 + i → f ≠ 94 → f ≠ 95 → F' f = F3 f) := by
        refine wr_iload rfl rfl rfl ?_
        refine wr_if_eq rfl rfl rfl (by omega) (fun c207 => ?_) (fun c207 => by exfalso; omega)
        refine wr_lconst (z := 0) rfl rfl rfl ?_
        refine wr_lstore (ls' := [_, _, _, _, _, _, _, _, _, _, _, _, _, _, _, _, _, _, _]) rfl rfl (Nat.le_of_ble_eq_true rfl) rfl ?_
        refine wr_aload_n rfl rfl rfl ?_
        refine wr_get (ci := 12) (f := 19) rfl rfl rfl (by assumption) rfl ?_
        rw [e19]
        refine wr_if_ne rfl rfl rfl (by omega) (fun c239 => by exfalso; omega) (fun c239 => ?_)
        refine wr_lconst (z := 0) rfl rfl rfl ?_
        refine wr_goto rfl rfl ?_
        refine wr_lstore (ls' := [_, _, _, _, _, _, _, _, _, _, _, _, _, _, _, _, _, _, _]) rfl rfl (Nat.le_of_ble_eq_true rfl) rfl ?_
        refine wr_iload rfl rfl rfl ?_
        refine wr_if_eq rfl rfl rfl (by omega) (fun c274 => ?_) (fun c274 => by exfalso; omega)
        refine wr_lconst (z := 1) rfl rfl rfl ?_
        refine wr_lstore (ls' := [_, _, _, _, _, _, _, _, _, _, _, _, _, _, _, _, _, _, _]) rfl rfl (Nat.le_of_ble_eq_true rfl) rfl ?_
        refine wr_iload rfl rfl rfl ?_
        refine wr_if_eq rfl rfl rfl (by omega) (fun c312 => ?_) (fun c312 => by exfalso; omega)
        refine wr_lconst (z := 0) rfl rfl rfl ?_
        refine wr_lstore (ls' := [_, _, _, _, _, _, _, _, _, _, _, _, _, _, _, _, _, _, _]) rfl rfl (Nat.le_of_ble_eq_true rfl) rfl ?_
        refine B (Or.inr (Or.inr ⟨rfl, ?_⟩)) ?_
        · unfold aS
          rw [if_neg (by omega), if_pos n0]
          omega
        · unfold dS
          rw [if_neg (by omega)]
          omega
      rcases hs with rfl | rfl
      ·
        rw [ixI_1] at hI
        refine wr_iload rfl rfl rfl ?_
        refine wr_aload_n rfl rfl rfl ?_
        refine wr_get (ci := 12) (f := 29) rfl rfl rfl (by assumption) rfl ?_
        rw [e29]
        refine wr_isub rfl rfl ?_
        rw [← hp]
        refine wr_istore (ls' := [_, _, _, _, _, _, _, _, _, _, _, _, _, _, _, _, _, _, _]) rfl rfl (Nat.le_of_ble_eq_true rfl) rfl ?_
        refine wr_iload rfl rfl rfl ?_
        refine wr_if_lt rfl rfl rfl (by omega) (fun c165 => ?_) (fun c165 => by exfalso; omega)
        refine wr_iconst rfl rfl ?_
        refine wr_istore (ls' := [_, _, _, _, _, _, _, _, _, _, _, _, _, _, _, _, _, _, _]) rfl rfl (Nat.le_of_ble_eq_true rfl) rfl ?_
        refine wr_iload rfl rfl rfl ?_
        refine wr_if_lt rfl rfl rfl (by omega) (fun c186 => by exfalso; omega) (fun c186 => ?_)
        refine wr_iload rfl rfl rfl ?_
        refine wr_aload_n rfl rfl rfl ?_
        refine wr_get (ci := 12) (f := 19) rfl rfl rfl (by assumption) rfl ?_
        rw [e19]
        refine wr_icmp_ge rfl rfl rfl (by omega) (by omega) (fun c195 => ?_) (fun c195 => by exfalso; omega)
        refine wr_iconst rfl rfl ?_
        refine wr_istore (ls' := [_, _, _, _, _, _, _, _, _, _, _, _, _, _, _, _, _, _, _]) rfl rfl (Nat.le_of_ble_eq_true rfl) rfl ?_
        exact K
      ·
        rw [ixI_m] at hI
        refine wr_iload rfl rfl rfl ?_
        refine wr_aload_n rfl rfl rfl ?_
        refine wr_get (ci := 12) (f := 29) rfl rfl rfl (by assumption) rfl ?_
        rw [e29]
        refine wr_isub rfl rfl ?_
        rw [← hp]
        refine wr_istore (ls' := [_, _, _, _, _, _, _, _, _, _, _, _, _, _, _, _, _, _, _]) rfl rfl (Nat.le_of_ble_eq_true rfl) rfl ?_
        refine wr_iload rfl rfl rfl ?_
        refine wr_if_lt rfl rfl rfl (by omega) (fun c165 => by exfalso; omega) (fun c165 => ?_)
        refine wr_iload rfl rfl rfl ?_
        refine wr_aload_n rfl rfl rfl ?_
        refine wr_get (ci := 12) (f := 19) rfl rfl rfl (by assumption) rfl ?_
        rw [e19]
        refine wr_icmp_ge rfl rfl rfl (by omega) (by omega) (fun c174 => ?_) (fun c174 => by exfalso; omega)
        refine wr_iconst rfl rfl ?_
        refine wr_istore (ls' := [_, _, _, _, _, _, _, _, _, _, _, _, _, _, _, _, _, _, _]) rfl rfl (Nat.le_of_ble_eq_true rfl) rfl ?_
        refine wr_iload rfl rfl rfl ?_
        refine wr_if_lt rfl rfl rfl (by omega) (fun c186 => ?_) (fun c186 => by exfalso; omega)
        refine wr_iconst rfl rfl ?_
        refine wr_istore (ls' := [_, _, _, _, _, _, _, _, _, _, _, _, _, _, _, _, _, _, _]) rfl rfl (Nat.le_of_ble_eq_true rfl) rfl ?_
        exact K
/-- the points beyond out, as far as they lie above the slope -/
theorem rr_slopeL {d i : Nat} {x3 x4 : Value} (w : FW h0 h o3 F3 A3) (g : RG n off lev o3 A3) (ok : okG n off lev) (hs : sg = 1 ∨ sg = -1) (hG : way = (gapS n off lev sg out high).sign) (e29 : o3 29 = sg) (e30 : o3 30 = out) (e31 : o3 31 = high) (hi : i ≤ 24) (f1 : F3 i = ((sg * out : Int) : Rat)) (f2 : F3 (26 + i) = (high : Rat) / 1000) (ho : 0 ≤ out ∧ out ≤ 2000000) (hh : -200000000000 ≤ high ∧ high ≤ 200000000000) (hw : way = 1 ∨ way = -1) (hu : 0 < up ∧ up ≤ 99999) (hv : 0 < ov ∧ ov ≤ 99999) : am_w X (d + 6) 172 (67, [.ref 164, .int (iI up), .int (iI ov), x3, x4, .int (iI i), .int (iI way), .int (iI (ixI n sg 0)), am_U, am_U, am_U, am_U, am_U, am_U, am_U, am_U, am_U, am_U, am_U], [], h) (fun r h' => r = none ∧ ∃ F', FW h0 h' o3 F' A3 ∧ F' i = (sg : Rat) * enS n off lev sg out high way up ov (jS n off lev sg out high way up ov) ∧ F' (26 + i) = (high : Rat) / 1000 + ((way * up : Int) : Rat) / ov * (enS n off lev sg out high way up ov (jS n off lev sg out high way up ov) - out) ∧ ∀ f, f ≠ i → f ≠ 26 + i → f ≠ 94 → f ≠ 95 → F' f = F3 f) := by
  have cO := w.cO
  have cA := w.arr (p := 175) (n := 12) (by decide) (by decide)
  have n12 := ok.1
  have g0 := g
  obtain ⟨e19, eG⟩ := g
  have S := slH_of (n := n) (off := off) (lev := lev) (sg := sg) (out := out) (high := high) (way := way) (up := up) (ov := ov) ok hs hu.1 hv.1 hG
  have kk := gk_spec n (uO n off sg) out
  have js := slJ_spec (n := n) (off := off) (lev := lev) (sg := sg) (out := out) (high := high) (way := way) (up := up) (ov := ov) (n - kO n off sg out) (kO n off sg out)
  have L2 : ∀ (m j : Nat), j + m = n → kO n off sg out ≤ j → slJ n off lev sg out high way up ov m j = jS n off lev sg out high way up ov → am_w X (d + 6) 172 (115, [.ref 164, .int (iI up), .int (iI ov), x3, x4, .int (iI i), .int (iI way), .int (iI (ixI n sg j)), am_U, am_U, am_U, am_U, am_U, am_U, am_U, am_U, am_U, am_U, am_U], [], h) (fun r h' => r = none ∧ ∃ F', FW h0 h' o3 F' A3 ∧ F' i = (sg : Rat) * enS n off lev sg out high way up ov (jS n off lev sg out high way up ov) ∧ F' (26 + i) = (high : Rat) / 1000 + ((way * up : Int) : Rat) / ov * (enS n off lev sg out high way up ov (jS n off lev sg out high way up ov) - out) ∧ ∀ f, f ≠ i → f ≠ 26 + i → f ≠ 94 → f ≠ 95 → F' f = F3 f) := by
    intro m
    induction m with
    | zero =>
      intro j hj hk ej
      have ej : j = jS n off lev sg out high way up ov := ej
      have fin := rr_slopeA (X := X) (d := d) (x3 := x3) (x4 := x4) w g0 S e29 e30 e31 hi f1 f2 ho hh hw hu hv
      rw [← ej] at fin ⊢
      obtain ⟨iv, hI⟩ : ∃ iv, iv = ixI n sg j := ⟨_, rfl⟩
      rw [← hI] at fin ⊢
      rcases hs with rfl | rfl
      ·
        rw [ixI_1] at hI
        refine wr_iload rfl rfl rfl ?_
        refine wr_if_lt rfl rfl rfl (by omega) (fun c117 => by exfalso; omega) (fun c117 => ?_)
        refine wr_iload rfl rfl rfl ?_
        refine wr_aload_n rfl rfl rfl ?_
        refine wr_get (ci := 12) (f := 19) rfl rfl rfl (by assumption) rfl ?_
        rw [e19]
        refine wr_icmp_ge rfl rfl rfl (by omega) (by omega) (fun c126 => ?_) (fun c126 => by exfalso; omega)
        exact fin
      ·
        rw [ixI_m] at hI
        refine wr_iload rfl rfl rfl ?_
        refine wr_if_lt rfl rfl rfl (by omega) (fun c117 => ?_) (fun c117 => by exfalso; omega)
        exact fin
    | succ m ih =>
      intro j hj hk ej
      have jl : j < n := by omega
      have il := ixO_lt (sg := sg) jl
      have en := ixI_next (n := n) (j := j) hs
      have e0 : ixI n sg j = ((ixO n sg j : Nat) : Int) := ixI_lt jl
      unfold slJ at ej
      by_cases c : 0 < lfS n off lev sg out high way up ov j
      · rw [if_neg (by omega)] at ej
        have nx := ih (j + 1) (by omega) (by omega) ej
        rw [← en] at nx
        rw [e0] at nx ⊢
        obtain ⟨q, hq⟩ : ∃ q, q = ixO n sg j := ⟨_, rfl⟩
        rw [← hq] at il nx ⊢
        refine wr_iload rfl rfl rfl ?_
        refine wr_if_lt rfl rfl rfl (by omega) (fun c117 => by exfalso; omega) (fun c117 => ?_)
        refine wr_iload rfl rfl rfl ?_
        refine wr_aload_n rfl rfl rfl ?_
        refine wr_get (ci := 12) (f := 19) rfl rfl rfl (by assumption) rfl ?_
        rw [e19]
        refine wr_icmp_ge rfl rfl rfl (by omega) (by omega) (fun c126 => by exfalso; omega) (fun c126 => ?_)
        refine wr_aload_n rfl rfl rfl ?_
        refine wr_iload rfl rfl rfl ?_
        refine wr_iload rfl rfl rfl ?_
        refine wr_iload_n rfl rfl rfl ?_
        refine wr_iload_n rfl rfl rfl ?_
        have bc := rr_isBeyond (X := X) (d := d + 5) w g0 ok hs e29 e30 e31 ho hh jl hw hu hv
        rw [← hq] at bc
        refine wr_cv4 (k' := 175) (ci := 12) rfl rfl rfl rfl (by assumption) rfl rfl (bc) (fun r h2 q => ?_)
        obtain ⟨rfl, rfl⟩ := q
        rw [b2_t c]
        refine wr_if_eq rfl rfl rfl (by omega) (fun c139 => by exfalso; omega) (fun c139 => ?_)
        refine wr_iload rfl rfl rfl ?_
        refine wr_aload_n rfl rfl rfl ?_
        refine wr_get (ci := 12) (f := 29) rfl rfl rfl (by assumption) rfl ?_
        rw [e29]
        refine wr_iadd rfl rfl ?_
        refine wr_istore (ls' := [_, _, _, _, _, _, _, _, _, _, _, _, _, _, _, _, _, _, _]) rfl rfl (Nat.le_of_ble_eq_true rfl) rfl ?_
        refine wr_goto rfl rfl ?_
        exact nx
      · rw [if_pos (by omega)] at ej
        have fin := rr_slopeA (X := X) (d := d) (x3 := x3) (x4 := x4) w g0 S e29 e30 e31 hi f1 f2 ho hh hw hu hv
        rw [← ej] at fin ⊢
        rw [e0] at fin ⊢
        obtain ⟨q, hq⟩ : ∃ q, q = ixO n sg j := ⟨_, rfl⟩
        rw [← hq] at il fin ⊢
        refine wr_iload rfl rfl rfl ?_
        refine wr_if_lt rfl rfl rfl (by omega) (fun c117 => by exfalso; omega) (fun c117 => ?_)
        refine wr_iload rfl rfl rfl ?_
        refine wr_aload_n rfl rfl rfl ?_
        refine wr_get (ci := 12) (f := 19) rfl rfl rfl (by assumption) rfl ?_
        rw [e19]
        refine wr_icmp_ge rfl rfl rfl (by omega) (by omega) (fun c126 => by exfalso; omega) (fun c126 => ?_)
        refine wr_aload_n rfl rfl rfl ?_
        refine wr_iload rfl rfl rfl ?_
        refine wr_iload rfl rfl rfl ?_
        refine wr_iload_n rfl rfl rfl ?_
        refine wr_iload_n rfl rfl rfl ?_
        have bc := rr_isBeyond (X := X) (d := d + 5) w g0 ok hs e29 e30 e31 ho hh jl hw hu hv
        rw [← hq] at bc
        refine wr_cv4 (k' := 175) (ci := 12) rfl rfl rfl rfl (by assumption) rfl rfl (bc) (fun r h2 q => ?_)
        obtain ⟨rfl, rfl⟩ := q
        rw [b2_f c]
        refine wr_if_eq rfl rfl rfl (by omega) (fun c139 => ?_) (fun c139 => by exfalso; omega)
        exact fin
  have L1 : ∀ (m j : Nat), j + m = n → gkF (uO n off sg) out m j = kO n off sg out → am_w X (d + 6) 172 (67, [.ref 164, .int (iI up), .int (iI ov), x3, x4, .int (iI i), .int (iI way), .int (iI (ixI n sg j)), am_U, am_U, am_U, am_U, am_U, am_U, am_U, am_U, am_U, am_U, am_U], [], h) (fun r h' => r = none ∧ ∃ F', FW h0 h' o3 F' A3 ∧ F' i = (sg : Rat) * enS n off lev sg out high way up ov (jS n off lev sg out high way up ov) ∧ F' (26 + i) = (high : Rat) / 1000 + ((way * up : Int) : Rat) / ov * (enS n off lev sg out high way up ov (jS n off lev sg out high way up ov) - out) ∧ ∀ f, f ≠ i → f ≠ 26 + i → f ≠ 94 → f ≠ 95 → F' f = F3 f) := by
    intro m
    induction m with
    | zero =>
      intro j hj ej
      have ej : j = kO n off sg out := ej
      have fin := L2 0 j hj (by omega) (by unfold jS; rw [← ej, show n - j = 0 by omega])
      obtain ⟨iv, hI⟩ : ∃ iv, iv = ixI n sg j := ⟨_, rfl⟩
      rw [← hI] at fin ⊢
      rcases hs with rfl | rfl
      ·
        rw [ixI_1] at hI
        refine wr_iload rfl rfl rfl ?_
        refine wr_if_lt rfl rfl rfl (by omega) (fun c69 => by exfalso; omega) (fun c69 => ?_)
        refine wr_iload rfl rfl rfl ?_
        refine wr_aload_n rfl rfl rfl ?_
        refine wr_get (ci := 12) (f := 19) rfl rfl rfl (by assumption) rfl ?_
        rw [e19]
        refine wr_icmp_ge rfl rfl rfl (by omega) (by omega) (fun c78 => ?_) (fun c78 => by exfalso; omega)
        exact fin
      ·
        rw [ixI_m] at hI
        refine wr_iload rfl rfl rfl ?_
        refine wr_if_lt rfl rfl rfl (by omega) (fun c69 => ?_) (fun c69 => by exfalso; omega)
        exact fin
    | succ m ih =>
      intro j hj ej
      have jl : j < n := by omega
      have il := ixO_lt (sg := sg) jl
      have ie := eG _ il
      have io := ok.2.1 (ixO n sg j)
      have ui := uO_in (j := j) ok hs
      have eu : uO n off sg j = sg * off (ixO n sg j) := rfl
      have en := ixI_next (n := n) (j := j) hs
      have e0 : ixI n sg j = ((ixO n sg j : Nat) : Int) := ixI_lt jl
      unfold gkF at ej
      by_cases c : uO n off sg j ≤ out
      · rw [if_pos c] at ej
        have nx := ih (j + 1) (by omega) ej
        rw [← en] at nx
        rw [e0] at nx ⊢
        obtain ⟨q, hq⟩ : ∃ q, q = ixO n sg j := ⟨_, rfl⟩
        rw [← hq] at il ie io eu nx ⊢
        refine wr_iload rfl rfl rfl ?_
        refine wr_if_lt rfl rfl rfl (by omega) (fun c69 => by exfalso; omega) (fun c69 => ?_)
        refine wr_iload rfl rfl rfl ?_
        refine wr_aload_n rfl rfl rfl ?_
        refine wr_get (ci := 12) (f := 19) rfl rfl rfl (by assumption) rfl ?_
        rw [e19]
        refine wr_icmp_ge rfl rfl rfl (by omega) (by omega) (fun c78 => by exfalso; omega) (fun c78 => ?_)
        refine wr_aload_n rfl rfl rfl ?_
        refine wr_get (ci := 12) (f := 29) rfl rfl rfl (by assumption) rfl ?_
        rw [e29]
        refine wr_i2l rfl rfl (by omega) ?_
        refine wr_aload_n rfl rfl rfl ?_
        refine wr_get (ci := 12) (f := 17) rfl rfl rfl (by assumption) rfl ?_
        refine wr_iload rfl rfl rfl ?_
        refine wr_iald rfl rfl (by assumption) (by omega) (by omega) ?_
        rw [Int.toNat_natCast, ie.1]
        refine wr_i2l rfl rfl (by omega) ?_
        refine wr_lmul rfl rfl ?_
        rw [← eu]
        refine wr_aload_n rfl rfl rfl ?_
        refine wr_get (ci := 12) (f := 30) rfl rfl rfl (by assumption) rfl ?_
        rw [e30]
        refine wr_l_gt rfl rfl rfl rfl rfl (by omega) (by omega) (fun c99 => by exfalso; omega) (fun c99 => ?_)
        refine wr_iload rfl rfl rfl ?_
        refine wr_aload_n rfl rfl rfl ?_
        refine wr_get (ci := 12) (f := 29) rfl rfl rfl (by assumption) rfl ?_
        rw [e29]
        refine wr_iadd rfl rfl ?_
        refine wr_istore (ls' := [_, _, _, _, _, _, _, _, _, _, _, _, _, _, _, _, _, _, _]) rfl rfl (Nat.le_of_ble_eq_true rfl) rfl ?_
        refine wr_goto rfl rfl ?_
        exact nx
      · rw [if_neg c] at ej
        have ej : j = kO n off sg out := ej
        have fin := L2 (m + 1) j hj (by omega) (by unfold jS; rw [← ej, show n - j = m + 1 by omega])
        rw [e0] at fin ⊢
        obtain ⟨q, hq⟩ : ∃ q, q = ixO n sg j := ⟨_, rfl⟩
        rw [← hq] at il ie io eu fin ⊢
        refine wr_iload rfl rfl rfl ?_
        refine wr_if_lt rfl rfl rfl (by omega) (fun c69 => by exfalso; omega) (fun c69 => ?_)
        refine wr_iload rfl rfl rfl ?_
        refine wr_aload_n rfl rfl rfl ?_
        refine wr_get (ci := 12) (f := 19) rfl rfl rfl (by assumption) rfl ?_
        rw [e19]
        refine wr_icmp_ge rfl rfl rfl (by omega) (by omega) (fun c78 => by exfalso; omega) (fun c78 => ?_)
        refine wr_aload_n rfl rfl rfl ?_
        refine wr_get (ci := 12) (f := 29) rfl rfl rfl (by assumption) rfl ?_
        rw [e29]
        refine wr_i2l rfl rfl (by omega) ?_
        refine wr_aload_n rfl rfl rfl ?_
        refine wr_get (ci := 12) (f := 17) rfl rfl rfl (by assumption) rfl ?_
        refine wr_iload rfl rfl rfl ?_
        refine wr_iald rfl rfl (by assumption) (by omega) (by omega) ?_
        rw [Int.toNat_natCast, ie.1]
        refine wr_i2l rfl rfl (by omega) ?_
        refine wr_lmul rfl rfl ?_
        rw [← eu]
        refine wr_aload_n rfl rfl rfl ?_
        refine wr_get (ci := 12) (f := 30) rfl rfl rfl (by assumption) rfl ?_
        rw [e30]
        refine wr_l_gt rfl rfl rfl rfl rfl (by omega) (by omega) (fun c99 => ?_) (fun c99 => by exfalso; omega)
        exact fin
  exact L1 n 0 (by omega) rfl
theorem eo_zero (ok : okG n off lev) (hs : sg = 1 ∨ sg = -1) (hu : 0 < up) (hv : 0 < ov) (h0 : gapS n off lev sg out high = 0) : eoS n off lev sg out high up ov = out ∧ elS n off lev sg out high up ov = (high : Rat) / 1000 := by
  have S := slH_of (n := n) (off := off) (lev := lev) (sg := sg) (out := out) (high := high) (way := (gapS n off lev sg out high).sign) (up := up) (ov := ov) ok hs hu hv rfl
  have r := S.root.2.2
  have e1 : eoS n off lev sg out high up ov = out := by
    unfold eoS
    generalize enS n off lev sg out high (gapS n off lev sg out high).sign up ov (jS n off lev sg out high (gapS n off lev sg out high).sign up ov) = t at *
    unfold slE at r
    rw [h0] at r
    have u0 : (0 : Rat) < up := q_pos hu
    have v0 : (0 : Rat) < ov := q_pos hv
    have z0 : (((0 : Int).sign : Int) : Rat) = 0 := by decide
    rw [z0] at r
    grind
  refine ⟨e1, ?_⟩
  unfold elS
  rw [e1, h0]
  grind
theorem rr_slope {d ax N : Nat} (w : FW h0 h o F A) (g : RG n off lev o A) (ok : okG n off lev) (hs : sg = 1 ∨ sg = -1) (e25 : o 25 = (ax : Int)) (e32 : o 32 = (N : Int)) (e29 : o 29 = sg) (e30 : o 30 = out) (e31 : o 31 = high) (ho : 0 ≤ out ∧ out ≤ 2000000) (hh : -200000000000 ≤ high ∧ high ≤ 200000000000) (hN : ax + 1 + N ≤ 24) (hu : 0 < up ∧ up ≤ 99999) (hv : 0 < ov ∧ ov ≤ 99999) : am_c X (d + 7) 172 [.ref 164, .int (iI up), .int (iI ov)] h (ceQ h0 o F A (ax + 1 + N) N 4 ((sg : Rat) * eoS n off lev sg out high up ov) (elS n off lev sg out high up ov)) := by
  have gi := gapS_in (n := n) (off := off) (lev := lev) (sg := sg) (ou := out) (hi := high) ok hh
  have cO := w.cO
  have n12 := ok.1
  have ei : (ax : Int) + 1 + (N : Int) = ((ax + 1 + N : Nat) : Int) := by omega
  refine am_c.of (Nat.le_of_ble_eq_true rfl) ?_
  show am_w _ _ _ (_, [_, _, _, _, _, _, _, _, _, _, _, _, _, _, _, _, _, _, _], _, _) _
  refine wr_aload_n rfl rfl rfl ?_
  refine wr_cv0 (k' := 173) (ci := 12) rfl rfl rfl rfl (by assumption) rfl rfl (rr_above w g ok hs e29 e30 e31 ho) (fun r h2 q => ?_)
  obtain ⟨rfl, o2, w, s2, n2⟩ := q
  have cO := w.cO
  have g2 : RG n off lev o2 A := g.keep (n2 19 (by decide) (by decide) (by decide)) ⟨rfl, rfl⟩
  have e25 : o2 25 = (ax : Int) := by rw [n2 25 (by decide) (by decide) (by decide), e25]
  have e32 : o2 32 = (N : Int) := by rw [n2 32 (by decide) (by decide) (by decide), e32]
  have e29 : o2 29 = sg := by rw [n2 29 (by decide) (by decide) (by decide), e29]
  have e30 : o2 30 = out := by rw [n2 30 (by decide) (by decide) (by decide), e30]
  have e31 : o2 31 = high := by rw [n2 31 (by decide) (by decide) (by decide), e31]
  refine wr_lstore_n (ls' := [_, _, _, _, _, _, _, _, _, _, _, _, _, _, _, _, _, _, _]) rfl rfl (Nat.le_of_ble_eq_true rfl) rfl ?_
  refine wr_aload_n rfl rfl rfl ?_
  refine wr_get (ci := 12) (f := 25) rfl rfl rfl (by assumption) rfl ?_
  rw [e25]
  refine wr_iconst rfl rfl ?_
  refine wr_iadd rfl rfl ?_
  refine wr_aload_n rfl rfl rfl ?_
  refine wr_get (ci := 12) (f := 32) rfl rfl rfl (by assumption) rfl ?_
  rw [e32]
  refine wr_iadd rfl rfl ?_
  rw [ei]
  refine wr_istore (ls' := [_, _, _, _, _, _, _, _, _, _, _, _, _, _, _, _, _, _, _]) rfl rfl (Nat.le_of_ble_eq_true rfl) rfl ?_
  refine wr_aload_n rfl rfl rfl ?_
  refine wr_iconst rfl rfl ?_
  refine wr_cv1 (k' := 171) (ci := 12) rfl rfl rfl rfl (by assumption) rfl rfl (rr_cornI (c := 4) w hs e25 e32 e29 e30 e31 ho hh hN) (fun r h2 q => ?_)
  obtain ⟨rfl, o3, F3, A3, w, ⟨s3, n3⟩, ⟨sA, nA⟩, f1, f2, fn⟩ := q
  have cO := w.cO
  refine wr_aload_n rfl rfl rfl ?_
  refine wr_iconst rfl rfl ?_
  refine wr_putZ (ci := 12) (f := 33) (fs' := [_, _, _, _, _, _, _, _, _, _, _, _, _, _, _, _, _, _, _, _, _, _, _, _, _, _, _, _, _, _, _, _, _, _, _, _, _, _, _]) rfl rfl rfl (by assumption) rfl rfl (by decide) rfl (fun h1 e1 => ?_)
  have w : FW h0 h1 (updI o3 33 (1)) F3 A3 := by rw [e1]; exact w.setO (updI o3 33 (1))
  clear e1
  obtain ⟨o4, w, t4, n4⟩ := fo_ex w
  have cO := w.cO
  have g4 : RG n off lev o4 A3 := g2.keep (by rw [n4 19 (by decide), n3 19 (by decide)]) ⟨nA _ (by decide), nA _ (by decide)⟩
  have k4 : ∀ j, j ≠ 32 → j ≠ 33 → j ≠ 34 → j ≠ 35 → j ≠ 36 → o4 j = o j := fun j a b c d e => by rw [n4 j b, n3 j a, n2 j c d e]
  have t32 : o4 32 = ((N + 1 : Nat) : Int) := by rw [n4 32 (by decide), s3]
  have e29 : o4 29 = sg := by rw [n4 29 (by decide), n3 29 (by decide), e29]
  have e30 : o4 30 = out := by rw [n4 30 (by decide), n3 30 (by decide), e30]
  have e31 : o4 31 = high := by rw [n4 31 (by decide), n3 31 (by decide), e31]
  obtain ⟨i, hi⟩ : ∃ i, i = ax + 1 + N := ⟨_, rfl⟩
  rw [← hi] at hN f1 f2 fn sA ⊢
  by_cases z0 : gapS n off lev sg out high = 0
  · have z := eo_zero (n := n) (off := off) (lev := lev) (sg := sg) (out := out) (high := high) (up := up) (ov := ov) ok hs hu.1 hv.1 z0
    rw [z.1, z.2]
    rw [z0] at gi ⊢
    refine wr_lload_n rfl rfl rfl ?_
    refine wr_lconst (z := 0) rfl rfl rfl ?_
    refine wr_l_ne rfl rfl rfl rfl rfl (by omega) (by omega) (fun c30 => by exfalso; omega) (fun c30 => ?_)
    refine wr_vret rfl rfl ?_
    refine ⟨rfl, o4, F3, A3, w, ⟨t32, t4, k4⟩, ⟨sA, nA⟩, ?_, f2, fun f a b _ _ => fn f a b⟩
    rw [f1]
    grind
  · have ei0 : ixI n sg 0 = if sg = 1 then 0 else (n : Int) - 1 := by unfold ixI; split <;> omega
    have J : ∀ way : Int, way = (gapS n off lev sg out high).sign → (way = 1 ∨ way = -1) → am_w X (d + 6) 172 (48, [.ref 164, .int (iI up), .int (iI ov), .long (lI (-gapS n off lev sg out high)), am_U, .int (iI i), .int (iI way), am_U, am_U, am_U, am_U, am_U, am_U, am_U, am_U, am_U, am_U, am_U, am_U], [], h1) (ceQ h0 o F A i N 4 ((sg : Rat) * eoS n off lev sg out high up ov) (elS n off lev sg out high up ov)) := by
      intro way hG hw
      have fin := rr_slopeL (X := X) (d := d) (x3 := .long (lI (-gapS n off lev sg out high))) (x4 := am_U) (i := i) (up := up) (ov := ov) w g4 ok hs hG e29 e30 e31 hN f1 f2 ho hh hw hu hv
      rw [ei0] at fin
      have fin2 : am_w X (d + 6) 172 _ (ceQ h0 o F A i N 4 ((sg : Rat) * eoS n off lev sg out high up ov) (elS n off lev sg out high up ov)) := fin.mono (fun r h' q => by
        obtain ⟨q1, F5, q2, q3, q4, q5⟩ := q
        refine ⟨q1, o4, F5, A3, q2, ⟨t32, t4, k4⟩, ⟨sA, nA⟩, ?_, ?_, fun f a b c d => by rw [q5 f a b c d, fn f a b]⟩
        · rw [q3]; unfold eoS; rw [hG]
        · rw [q4]; unfold elS eoS; rw [hG])
      have e19 := g4.1
      rcases hs with rfl | rfl
      ·
        rw [if_pos rfl] at fin2
        refine wr_aload_n rfl rfl rfl ?_
        refine wr_get (ci := 12) (f := 29) rfl rfl rfl (by assumption) rfl ?_
        rw [e29]
        refine wr_if_le rfl rfl rfl (by omega) (fun c52 => by exfalso; omega) (fun c52 => ?_)
        refine wr_iconst rfl rfl ?_
        refine wr_goto rfl rfl ?_
        refine wr_istore (ls' := [_, _, _, _, _, _, _, _, _, _, _, _, _, _, _, _, _, _, _]) rfl rfl (Nat.le_of_ble_eq_true rfl) rfl ?_
        exact fin2
      ·
        rw [if_neg (by decide)] at fin2
        refine wr_aload_n rfl rfl rfl ?_
        refine wr_get (ci := 12) (f := 29) rfl rfl rfl (by assumption) rfl ?_
        rw [e29]
        refine wr_if_le rfl rfl rfl (by omega) (fun c52 => ?_) (fun c52 => by exfalso; omega)
        refine wr_aload_n rfl rfl rfl ?_
        refine wr_get (ci := 12) (f := 19) rfl rfl rfl (by assumption) rfl ?_
        rw [e19]
        refine wr_iconst rfl rfl ?_
        refine wr_isub rfl rfl ?_
        refine wr_istore (ls' := [_, _, _, _, _, _, _, _, _, _, _, _, _, _, _, _, _, _, _]) rfl rfl (Nat.le_of_ble_eq_true rfl) rfl ?_
        exact fin2
    by_cases gp : 0 < gapS n off lev sg out high
    ·
      refine wr_lload_n rfl rfl rfl ?_
      refine wr_lconst (z := 0) rfl rfl rfl ?_
      refine wr_l_ne rfl rfl rfl rfl rfl (by omega) (by omega) (fun c30 => ?_) (fun c30 => by exfalso; omega)
      refine wr_lload_n rfl rfl rfl ?_
      refine wr_lconst (z := 0) rfl rfl rfl ?_
      refine wr_l_ge rfl rfl rfl rfl rfl (by omega) (by omega) (fun c37 => by exfalso; omega) (fun c37 => ?_)
      refine wr_iconst rfl rfl ?_
      refine wr_goto rfl rfl ?_
      refine wr_istore (ls' := [_, _, _, _, _, _, _, _, _, _, _, _, _, _, _, _, _, _, _]) rfl rfl (Nat.le_of_ble_eq_true rfl) rfl ?_
      exact J 1 (Int.sign_eq_one_of_pos gp).symm (Or.inl rfl)
    ·
      refine wr_lload_n rfl rfl rfl ?_
      refine wr_lconst (z := 0) rfl rfl rfl ?_
      refine wr_l_ne rfl rfl rfl rfl rfl (by omega) (by omega) (fun c30 => ?_) (fun c30 => by exfalso; omega)
      refine wr_lload_n rfl rfl rfl ?_
      refine wr_lconst (z := 0) rfl rfl rfl ?_
      refine wr_l_ge rfl rfl rfl rfl rfl (by omega) (by omega) (fun c37 => ?_) (fun c37 => by exfalso; omega)
      refine wr_iconst rfl rfl ?_
      refine wr_istore (ls' := [_, _, _, _, _, _, _, _, _, _, _, _, _, _, _, _, _, _, _]) rfl rfl (Nat.le_of_ble_eq_true rfl) rfl ?_
      exact J (-1) (Int.sign_eq_neg_one_of_neg (by omega)).symm (Or.inr rfl)
end RSB
