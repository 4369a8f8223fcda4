/-! THE REFERENCE WALKS: a side's walk -/
section RSE
variable {X : Nat × (Nat → Int32)} {h0 h h' : am_H} {o o' o'' : Nat → Int} {A A' A'' : Nat → Nat → Int} {F F' F'' : Nat → Rat} {n ax : Nat} {off lev : Nat → Int} {sg : Int}
/-- an ending corner, as the walk sees it -/
theorem RKW.ends {w1 : WS} {c rs rn : Int} {eo el xo : Rat} (R : RKW ax sg w1 o F A) (e0 : w1.s.e = 0) (hN : w1.s.N < 12) (hax : ax ≤ 12) (q : ceS o F A (ax + 1 + w1.s.N) w1.s.N c xo el o' F' A') (ex : xo = (sg : Rat) * eo) : RKW ax sg (WS.mk (wEnd w1.s c rs rn) eo el w1.ch w1.tk) o' F' A' ∧ kpW ax o F A o' F' A' ∧ A' 179 = A 179 := by
  obtain ⟨⟨q1, q2, q3⟩, ⟨q4, q5⟩, q6, q7, q8⟩ := q
  have R0 := R
  obtain ⟨⟨⟨r25, r29⟩, ⟨r30, r31⟩, r32, r33⟩, ⟨r27, r180⟩, rc⟩ := R0
  refine ⟨R.more (c := c) (out' := w1.s.ou w1.s.N) (high' := w1.s.hi w1.s.N) e0 rfl rfl ?_ ?_ rfl rfl (q3 _ (by decide) (by decide) (by decide) (by decide) (by decide)) (q3 _ (by decide) (by decide) (by decide) (by decide) (by decide)) (q3 _ (by decide) (by decide) (by decide) (by decide) (by decide)) ((q3 _ (by decide) (by decide) (by decide) (by decide) (by decide)).trans r30) ((q3 _ (by decide) (by decide) (by decide) (by decide) (by decide)).trans r31) q1 q2 (q5 _ (by decide)) q4 ?_ ?_ (fun i hi => ⟨q8 _ (by omega) (by omega) (by omega) (by omega), q8 _ (by omega) (by omega) (by omega) (by omega)⟩), ⟨fun j a b => q3 j (by omega) (by omega) (by omega) (by omega) (by omega), fun j a _ _ => q5 j a, fun j hj => by rw [q4, updI_n (by omega)], fun f hf => q8 f (by omega) (by omega) (by omega) (by omega)⟩, q5 _ (by decide)⟩
  · show updI w1.s.ou (w1.s.N + 1) (w1.s.ou w1.s.N + 0) = _
    rw [Int.add_zero]
  · show updI w1.s.hi (w1.s.N + 1) (w1.s.hi w1.s.N - 0) = _
    rw [Int.sub_zero]
  · rw [q6, ex]
    show _ = (sg : Rat) * (if (1 : Int) = 1 ∧ w1.s.N + 1 = w1.s.N + 1 then eo else _)
    rw [if_pos ⟨rfl, rfl⟩]
  · rw [q7]
    show _ = (if (1 : Int) = 1 ∧ w1.s.N + 1 = w1.s.N + 1 then el else _)
    rw [if_pos ⟨rfl, rfl⟩]
theorem rr_walkL {d ax t st c0 : Nat} {kd fi se ta : Nat → Int} {bank en : Int} (ok : okG n off lev) (hs : sg = 1 ∨ sg = -1) (hb : -150 ≤ bank ∧ bank ≤ 150) (row : ∀ k : Nat, (k : Int) < en → rowOK kd fi se k) (tar : ∀ k : Nat, st ≤ k → (k : Int) < en → 6 ≤ kd k → (k : Int) < ta k ∧ ta k ≤ en) (hc : cntR kd st (en.toNat - st) ≤ 12) (hen : en ≤ 144) (hax : ax ≤ 12) (hc0 : c0 ≤ 12) (ht : t ≤ 5) : ∀ (m : Nat) (w1 : WS) (k : Nat) (o : Nat → Int) (F : Nat → Rat) (A : Nat → Nat → Int) (h : am_H) (x y : Value), en ≤ k + m → (k : Int) ≤ en → InvW kd st c0 w1 k → FW h0 h o F A → RG n off lev o A → o 21 = bank → A 173 (t + 1) = en → (∀ j : Nat, (j : Int) < en → rowE (A 169 j) (A 170 j) (A 171 j) (A 172 j) (kd j) (fi j) (se j) (ta j)) → RKW ax sg w1 o F A → am_w X (d + 7) 170 (40, [.ref 164, .int (iI t), .int (iI sg), .int (iI k), x, y], [], h) (wkQ h0 o F A ax sg (wLoop kd fi se ta n off lev sg bank en m w1 k)) := by
  intro m
  induction m with
  | zero =>
    intro w1 k o F A h x y hm hk I w g e21 eb re R
    have cO := w.cO
    have et : ((t : Int) + 1).toNat = t + 1 := by omega
    have c73 := w.arr (p := 173) (n := 14) (by decide) (by decide)
    refine wr_iload_n rfl rfl rfl ?_
    refine wr_aload_n rfl rfl rfl ?_
    refine wr_get (ci := 12) (f := 11) rfl rfl rfl (by assumption) rfl ?_
    refine wr_iload_n rfl rfl rfl ?_
    refine wr_iconst rfl rfl ?_
    refine wr_iadd rfl rfl ?_
    refine wr_iald rfl rfl (by assumption) (by omega) (by omega) ?_
    rw [et, eb]
    refine wr_icmp_ge rfl rfl rfl (by omega) (by omega) (fun c49 => ?_) (fun c49 => by exfalso; omega)
    exact rr_walkE w hs R I.ok.2.1
  | succ m ih =>
    intro w1 k o F A h x y hm hk I w g e21 eb re R
    have cO := w.cO
    have et : ((t : Int) + 1).toNat = t + 1 := by omega
    have e33 := R.1.2.2.2
    have e01 := I.ok.2.1
    have c69 := w.arr (p := 169) (n := 300) (by decide) (by decide)
    have c70 := w.arr (p := 170) (n := 300) (by decide) (by decide)
    have c71 := w.arr (p := 171) (n := 300) (by decide) (by decide)
    have c72 := w.arr (p := 172) (n := 300) (by decide) (by decide)
    have c73 := w.arr (p := 173) (n := 14) (by decide) (by decide)
    by_cases kl : (k : Int) < en
    · by_cases e0 : w1.s.e = 0
      · have rk := row k kl
        have rE := re k kl
        have nx := I.next (fi := fi) (se := se) (ta := ta) (n := n) (off := off) (lev := lev) (sg := sg) (bank := bank) kl hc rk (tar k I.stk kl) hs hb
        have tk := tar k I.stk kl
        have cl := I.c0l
        have NX : ∀ (w2 : WS) (k2 : Nat) (o' : Nat → Int) (F' : Nat → Rat) (A' : Nat → Nat → Int) (h' : am_H) (x y : Value), wStep kd fi se ta n off lev sg bank w1 k = (w2, k2) → FW h0 h' o' F' A' → RKW ax sg w2 o' F' A' → kpW ax o F A o' F' A' → A' 179 = A 179 → am_w X (d + 7) 170 (40, [.ref 164, .int (iI t), .int (iI sg), .int (iI k2), x, y], [], h') (wkQ h0 o F A ax sg (wLoop kd fi se ta n off lev sg bank en (m + 1) w1 k)) := by
          intro w2 k2 o' F' A' h' x y eS w' R' kp e9
          rw [eS] at nx
          obtain ⟨i1, i2, i3, -, -⟩ := nx
          have ie : ∀ j, j ≠ 178 → j ≠ 179 → j ≠ 180 → A' j = A j := kp.2.1
          have := ih w2 k2 o' F' A' h' x y (by omega) i3 i1 w' (g.keep (kp.1 19 (by decide) (by decide)) ⟨ie _ (by decide) (by decide) (by decide), ie _ (by decide) (by decide) (by decide)⟩) (by rw [kp.1 21 (by decide) (by decide), e21]) (by rw [ie 173 (by decide) (by decide) (by decide), eb]) (fun j hj => by rw [ie 169 (by decide) (by decide) (by decide), ie 170 (by decide) (by decide) (by decide), ie 171 (by decide) (by decide) (by decide), ie 172 (by decide) (by decide) (by decide)]; exact re j hj) R'
          rw [wLoop, if_pos ⟨kl, e0⟩, eS]
          exact this.mono (fun r h' q => q.of kp e9)
        have ob := I.ok
        have b1 := ob.2.2.1 _ (Nat.le_refl _)
        have b3 := ob.2.2.2 _ (Nat.le_refl _)
        have N12 := nx.2.2.2.2
        clear nx ih
        obtain ⟨⟨⟨r25, r29⟩, ⟨r30, r31⟩, r32, -⟩, ⟨r27, -⟩, -⟩ := id R
        obtain ⟨a1, a2, a3, a4, a5, a6, a7, a8⟩ := rk
        rcases rE with ⟨k5, re1, re2, re3⟩ | ⟨k69, re1, re2, re3, re4⟩ | ⟨k10, re1, re2⟩
        · have hN := N12 (by omega)
          have hN : w1.s.N < 12 := by omega
          have k5' : kd k = 1 ∨ kd k = 2 ∨ kd k = 3 ∨ kd k = 4 ∨ kd k = 5 := by omega
          rcases k5' with kk | kk | kk | kk | kk
          · have eS : wStep kd fi se ta n off lev sg bank w1 k = ((WS.mk (wStride w1.s 1 (fi k) (se k)) w1.eo w1.el w1.ch w1.tk), k + 1) := by
              unfold wStep
              rw [if_neg (by omega), if_neg (by omega), if_neg (by omega), if_neg (by omega), if_neg (by omega), kk]
            rw [kk] at re1
            refine wr_iload_n rfl rfl rfl ?_
            refine wr_aload_n rfl rfl rfl ?_
            refine wr_get (ci := 12) (f := 11) rfl rfl rfl (by assumption) rfl ?_
            refine wr_iload_n rfl rfl rfl ?_
            refine wr_iconst rfl rfl ?_
            refine wr_iadd rfl rfl ?_
            refine wr_iald rfl rfl (by assumption) (by omega) (by omega) ?_
            rw [et, eb]
            refine wr_icmp_ge rfl rfl rfl (by omega) (by omega) (fun c49 => by exfalso; omega) (fun c49 => ?_)
            refine wr_aload_n rfl rfl rfl ?_
            refine wr_get (ci := 12) (f := 33) rfl rfl rfl (by assumption) rfl ?_
            rw [e33]
            refine wr_if_ne rfl rfl rfl (by omega) (fun c56 => by exfalso; omega) (fun c56 => ?_)
            refine wr_iload_n rfl rfl rfl ?_
            refine wr_iconst rfl rfl ?_
            refine wr_iadd rfl rfl ?_
            refine wr_istore (ls' := [_, _, _, _, _, _]) rfl rfl (Nat.le_of_ble_eq_true rfl) rfl ?_
            refine wr_aload_n rfl rfl rfl ?_
            refine wr_get (ci := 12) (f := 7) rfl rfl rfl (by assumption) rfl ?_
            refine wr_iload_n rfl rfl rfl ?_
            refine wr_iald rfl rfl (by assumption) (by omega) (by omega) ?_
            rw [Int.toNat_natCast, re1]
            refine sw_170_70 (by omega) (fun c70 => ?_) (fun c70 => by exfalso; omega) (fun c70 => by exfalso; omega) (fun c70 => by exfalso; omega) (fun c70 => by exfalso; omega) (fun c70 => by exfalso; omega) (fun c70_0 c70_1 c70_2 c70_3 c70_4 c70_5 => by exfalso; omega)
            refine rr_wk1 w hs R ob e0 hN hax (by omega) re2 re3 ⟨a3, a4⟩ ⟨a5, a6⟩ (fun o' F' A' h' w' R' kp e9 => ?_)
            refine wr_iload rfl rfl rfl ?_
            refine wr_istore_n (ls' := [_, _, _, _, _, _]) rfl rfl (Nat.le_of_ble_eq_true rfl) rfl ?_
            refine wr_goto rfl rfl ?_
            exact NX _ _ o' F' A' h' _ _ eS w' R' kp e9
          · have eS : wStep kd fi se ta n off lev sg bank w1 k = ((WS.mk (wStride w1.s 2 (fi k) (-sg * bank)) w1.eo w1.el w1.ch w1.tk), k + 1) := by
              unfold wStep
              rw [if_neg (by omega), if_neg (by omega), if_neg (by omega), if_neg (by omega), if_pos kk, kk]
            rw [kk] at re1
            refine wr_iload_n rfl rfl rfl ?_
            refine wr_aload_n rfl rfl rfl ?_
            refine wr_get (ci := 12) (f := 11) rfl rfl rfl (by assumption) rfl ?_
            refine wr_iload_n rfl rfl rfl ?_
            refine wr_iconst rfl rfl ?_
            refine wr_iadd rfl rfl ?_
            refine wr_iald rfl rfl (by assumption) (by omega) (by omega) ?_
            rw [et, eb]
            refine wr_icmp_ge rfl rfl rfl (by omega) (by omega) (fun c49 => by exfalso; omega) (fun c49 => ?_)
            refine wr_aload_n rfl rfl rfl ?_
            refine wr_get (ci := 12) (f := 33) rfl rfl rfl (by assumption) rfl ?_
            rw [e33]
            refine wr_if_ne rfl rfl rfl (by omega) (fun c56 => by exfalso; omega) (fun c56 => ?_)
            refine wr_iload_n rfl rfl rfl ?_
            refine wr_iconst rfl rfl ?_
            refine wr_iadd rfl rfl ?_
            refine wr_istore (ls' := [_, _, _, _, _, _]) rfl rfl (Nat.le_of_ble_eq_true rfl) rfl ?_
            refine wr_aload_n rfl rfl rfl ?_
            refine wr_get (ci := 12) (f := 7) rfl rfl rfl (by assumption) rfl ?_
            refine wr_iload_n rfl rfl rfl ?_
            refine wr_iald rfl rfl (by assumption) (by omega) (by omega) ?_
            rw [Int.toNat_natCast, re1]
            refine sw_170_70 (by omega) (fun c70 => by exfalso; omega) (fun c70 => ?_) (fun c70 => by exfalso; omega) (fun c70 => by exfalso; omega) (fun c70 => by exfalso; omega) (fun c70 => by exfalso; omega) (fun c70_0 c70_1 c70_2 c70_3 c70_4 c70_5 => by exfalso; omega)
            refine rr_wk2 w hs R ob e0 hN hax (by omega) e21 hb re2 re3 ⟨a3, a4⟩ ⟨a5, a6⟩ (fun o' F' A' h' w' R' kp e9 => ?_)
            refine wr_iload rfl rfl rfl ?_
            refine wr_istore_n (ls' := [_, _, _, _, _, _]) rfl rfl (Nat.le_of_ble_eq_true rfl) rfl ?_
            refine wr_goto rfl rfl ?_
            exact NX _ _ o' F' A' h' _ _ eS w' R' kp e9
          · have eS : wStep kd fi se ta n off lev sg bank w1 k = ((WS.mk (wStride w1.s 3 (fi k) (se k)) w1.eo w1.el w1.ch w1.tk), k + 1) := by
              unfold wStep
              rw [if_neg (by omega), if_neg (by omega), if_neg (by omega), if_neg (by omega), if_neg (by omega), kk]
            rw [kk] at re1
            refine wr_iload_n rfl rfl rfl ?_
            refine wr_aload_n rfl rfl rfl ?_
            refine wr_get (ci := 12) (f := 11) rfl rfl rfl (by assumption) rfl ?_
            refine wr_iload_n rfl rfl rfl ?_
            refine wr_iconst rfl rfl ?_
            refine wr_iadd rfl rfl ?_
            refine wr_iald rfl rfl (by assumption) (by omega) (by omega) ?_
            rw [et, eb]
            refine wr_icmp_ge rfl rfl rfl (by omega) (by omega) (fun c49 => by exfalso; omega) (fun c49 => ?_)
            refine wr_aload_n rfl rfl rfl ?_
            refine wr_get (ci := 12) (f := 33) rfl rfl rfl (by assumption) rfl ?_
            rw [e33]
            refine wr_if_ne rfl rfl rfl (by omega) (fun c56 => by exfalso; omega) (fun c56 => ?_)
            refine wr_iload_n rfl rfl rfl ?_
            refine wr_iconst rfl rfl ?_
            refine wr_iadd rfl rfl ?_
            refine wr_istore (ls' := [_, _, _, _, _, _]) rfl rfl (Nat.le_of_ble_eq_true rfl) rfl ?_
            refine wr_aload_n rfl rfl rfl ?_
            refine wr_get (ci := 12) (f := 7) rfl rfl rfl (by assumption) rfl ?_
            refine wr_iload_n rfl rfl rfl ?_
            refine wr_iald rfl rfl (by assumption) (by omega) (by omega) ?_
            rw [Int.toNat_natCast, re1]
            refine sw_170_70 (by omega) (fun c70 => by exfalso; omega) (fun c70 => by exfalso; omega) (fun c70 => ?_) (fun c70 => by exfalso; omega) (fun c70 => by exfalso; omega) (fun c70 => by exfalso; omega) (fun c70_0 c70_1 c70_2 c70_3 c70_4 c70_5 => by exfalso; omega)
            refine rr_wk3 w hs R ob e0 hN hax (by omega) re2 re3 ⟨a3, a4⟩ ⟨a5, a6⟩ (fun o' F' A' h' w' R' kp e9 => ?_)
            refine wr_iload rfl rfl rfl ?_
            refine wr_istore_n (ls' := [_, _, _, _, _, _]) rfl rfl (Nat.le_of_ble_eq_true rfl) rfl ?_
            refine wr_goto rfl rfl ?_
            exact NX _ _ o' F' A' h' _ _ eS w' R' kp e9
          · have eS : wStep kd fi se ta n off lev sg bank w1 k = (WS.mk (wEnd w1.s 4 ((wGap n off lev sg w1.s).sign * fi k) (se k)) (eoS n off lev sg (w1.s.ou w1.s.N) (w1.s.hi w1.s.N) (fi k) (se k)) (elS n off lev sg (w1.s.ou w1.s.N) (w1.s.hi w1.s.N) (fi k) (se k)) w1.ch w1.tk, k + 1) := by
              unfold wStep
              rw [if_neg (by omega), if_neg (by omega), if_pos kk]
            rw [kk] at re1
            refine wr_iload_n rfl rfl rfl ?_
            refine wr_aload_n rfl rfl rfl ?_
            refine wr_get (ci := 12) (f := 11) rfl rfl rfl (by assumption) rfl ?_
            refine wr_iload_n rfl rfl rfl ?_
            refine wr_iconst rfl rfl ?_
            refine wr_iadd rfl rfl ?_
            refine wr_iald rfl rfl (by assumption) (by omega) (by omega) ?_
            rw [et, eb]
            refine wr_icmp_ge rfl rfl rfl (by omega) (by omega) (fun c49 => by exfalso; omega) (fun c49 => ?_)
            refine wr_aload_n rfl rfl rfl ?_
            refine wr_get (ci := 12) (f := 33) rfl rfl rfl (by assumption) rfl ?_
            rw [e33]
            refine wr_if_ne rfl rfl rfl (by omega) (fun c56 => by exfalso; omega) (fun c56 => ?_)
            refine wr_iload_n rfl rfl rfl ?_
            refine wr_iconst rfl rfl ?_
            refine wr_iadd rfl rfl ?_
            refine wr_istore (ls' := [_, _, _, _, _, _]) rfl rfl (Nat.le_of_ble_eq_true rfl) rfl ?_
            refine wr_aload_n rfl rfl rfl ?_
            refine wr_get (ci := 12) (f := 7) rfl rfl rfl (by assumption) rfl ?_
            refine wr_iload_n rfl rfl rfl ?_
            refine wr_iald rfl rfl (by assumption) (by omega) (by omega) ?_
            rw [Int.toNat_natCast, re1]
            refine sw_170_70 (by omega) (fun c70 => by exfalso; omega) (fun c70 => by exfalso; omega) (fun c70 => by exfalso; omega) (fun c70 => ?_) (fun c70 => by exfalso; omega) (fun c70 => by exfalso; omega) (fun c70_0 c70_1 c70_2 c70_3 c70_4 c70_5 => by exfalso; omega)
            refine wr_aload_n rfl rfl rfl ?_
            refine wr_aload_n rfl rfl rfl ?_
            refine wr_get (ci := 12) (f := 8) rfl rfl rfl (by assumption) rfl ?_
            refine wr_iload_n rfl rfl rfl ?_
            refine wr_iald rfl rfl (by assumption) (by omega) (by omega) ?_
            rw [Int.toNat_natCast, re2]
            refine wr_aload_n rfl rfl rfl ?_
            refine wr_get (ci := 12) (f := 9) rfl rfl rfl (by assumption) rfl ?_
            refine wr_iload_n rfl rfl rfl ?_
            refine wr_iald rfl rfl (by assumption) (by omega) (by omega) ?_
            rw [Int.toNat_natCast, re3]
            refine wr_cv2 (k' := 172) (ci := 12) rfl rfl rfl rfl (by assumption) rfl rfl (rr_slope (d := d) w g ok hs r25 r32 r29 r30 r31 (by omega) (by omega) (by omega) (by omega) (by omega)) (fun r h2 q => ?_)
            obtain ⟨rfl, o2, F2, A2, w, q⟩ := q
            obtain ⟨R', kp, e9⟩ := R.ends (rs := (wGap n off lev sg w1.s).sign * fi k) (rn := se k) e0 hN hax q rfl
            refine wr_goto rfl rfl ?_
            refine wr_iload rfl rfl rfl ?_
            refine wr_istore_n (ls' := [_, _, _, _, _, _]) rfl rfl (Nat.le_of_ble_eq_true rfl) rfl ?_
            refine wr_goto rfl rfl ?_
            exact NX _ _ o2 F2 A2 _ _ _ eS w R' kp e9
          · have eS : wStep kd fi se ta n off lev sg bank w1 k = (WS.mk (wEnd w1.s 5 0 1) (Rat.divInt (w1.s.ou w1.s.N) 1) (Rat.divInt (gU n off lev (sg * w1.s.ou w1.s.N)) (gL n off (sg * w1.s.ou w1.s.N))) w1.ch w1.tk, k + 1) := by
              unfold wStep
              rw [if_neg (by omega), if_neg (by omega), if_neg (by omega), if_pos kk]
            rw [kk] at re1
            refine wr_iload_n rfl rfl rfl ?_
            refine wr_aload_n rfl rfl rfl ?_
            refine wr_get (ci := 12) (f := 11) rfl rfl rfl (by assumption) rfl ?_
            refine wr_iload_n rfl rfl rfl ?_
            refine wr_iconst rfl rfl ?_
            refine wr_iadd rfl rfl ?_
            refine wr_iald rfl rfl (by assumption) (by omega) (by omega) ?_
            rw [et, eb]
            refine wr_icmp_ge rfl rfl rfl (by omega) (by omega) (fun c49 => by exfalso; omega) (fun c49 => ?_)
            refine wr_aload_n rfl rfl rfl ?_
            refine wr_get (ci := 12) (f := 33) rfl rfl rfl (by assumption) rfl ?_
            rw [e33]
            refine wr_if_ne rfl rfl rfl (by omega) (fun c56 => by exfalso; omega) (fun c56 => ?_)
            refine wr_iload_n rfl rfl rfl ?_
            refine wr_iconst rfl rfl ?_
            refine wr_iadd rfl rfl ?_
            refine wr_istore (ls' := [_, _, _, _, _, _]) rfl rfl (Nat.le_of_ble_eq_true rfl) rfl ?_
            refine wr_aload_n rfl rfl rfl ?_
            refine wr_get (ci := 12) (f := 7) rfl rfl rfl (by assumption) rfl ?_
            refine wr_iload_n rfl rfl rfl ?_
            refine wr_iald rfl rfl (by assumption) (by omega) (by omega) ?_
            rw [Int.toNat_natCast, re1]
            refine sw_170_70 (by omega) (fun c70 => by exfalso; omega) (fun c70 => by exfalso; omega) (fun c70 => by exfalso; omega) (fun c70 => by exfalso; omega) (fun c70 => ?_) (fun c70 => by exfalso; omega) (fun c70_0 c70_1 c70_2 c70_3 c70_4 c70_5 => by exfalso; omega)
            refine wr_aload_n rfl rfl rfl ?_
            refine wr_cv0 (k' := 180) (ci := 12) rfl rfl rfl rfl (by assumption) rfl rfl (rr_wall (d := d) w g ok hs r25 r32 r29 r30 r31 (by omega) (by omega) (by omega)) (fun r h2 q => ?_)
            obtain ⟨rfl, o2, F2, A2, w, q⟩ := q
            obtain ⟨R', kp, e9⟩ := R.ends (rs := 0) (rn := 1) (eo := Rat.divInt (w1.s.ou w1.s.N) 1) e0 hN hax q (by rw [div1Q, Rat.intCast_mul])
            refine wr_goto rfl rfl ?_
            refine wr_iload rfl rfl rfl ?_
            refine wr_istore_n (ls' := [_, _, _, _, _, _]) rfl rfl (Nat.le_of_ble_eq_true rfl) rfl ?_
            refine wr_goto rfl rfl ?_
            exact NX _ _ o2 F2 A2 _ _ _ eS w R' kp e9
        · have hN := N12 (by omega)
          have t1 := tk (by omega)
          have s01 := a8 (by omega)
          have ch24 : w1.ch < 24 := by omega
          have eW : wStep kd fi se ta n off lev sg bank w1 k = (if holdP (kd k) (fi k) (wGap n off lev sg w1.s) (wLow n off sg w1.s) then ((WS.mk w1.s w1.eo w1.el (w1.ch + 1) (updI w1.tk w1.ch 1)), k + 1) else ((WS.mk w1.s w1.eo w1.el (w1.ch + 1) (updI w1.tk w1.ch (if se k = 1 then 2 else 0))), (ta k).toNat)) := by
            unfold wStep
            rw [if_neg (by omega), if_pos (by omega)]
          unfold wGap wLow at eW
          refine wr_iload_n rfl rfl rfl ?_
          refine wr_aload_n rfl rfl rfl ?_
          refine wr_get (ci := 12) (f := 11) rfl rfl rfl (by assumption) rfl ?_
          refine wr_iload_n rfl rfl rfl ?_
          refine wr_iconst rfl rfl ?_
          refine wr_iadd rfl rfl ?_
          refine wr_iald rfl rfl (by assumption) (by omega) (by omega) ?_
          rw [et, eb]
          refine wr_icmp_ge rfl rfl rfl (by omega) (by omega) (fun c49 => by exfalso; omega) (fun c49 => ?_)
          refine wr_aload_n rfl rfl rfl ?_
          refine wr_get (ci := 12) (f := 33) rfl rfl rfl (by assumption) rfl ?_
          rw [e33]
          refine wr_if_ne rfl rfl rfl (by omega) (fun c56 => by exfalso; omega) (fun c56 => ?_)
          refine wr_iload_n rfl rfl rfl ?_
          refine wr_iconst rfl rfl ?_
          refine wr_iadd rfl rfl ?_
          refine wr_istore (ls' := [_, _, _, _, _, _]) rfl rfl (Nat.le_of_ble_eq_true rfl) rfl ?_
          refine wr_aload_n rfl rfl rfl ?_
          refine wr_get (ci := 12) (f := 7) rfl rfl rfl (by assumption) rfl ?_
          refine wr_iload_n rfl rfl rfl ?_
          refine wr_iald rfl rfl (by assumption) (by omega) (by omega) ?_
          rw [Int.toNat_natCast, re1]
          refine sw_170_70 (by omega) (fun c70 => by exfalso; omega) (fun c70 => by exfalso; omega) (fun c70 => by exfalso; omega) (fun c70 => by exfalso; omega) (fun c70 => by exfalso; omega) (fun c70 => ?_) (fun c70_0 c70_1 c70_2 c70_3 c70_4 c70_5 => by exfalso; omega)
          refine wr_aload_n rfl rfl rfl ?_
          refine wr_aload_n rfl rfl rfl ?_
          refine wr_get (ci := 12) (f := 8) rfl rfl rfl (by assumption) rfl ?_
          refine wr_iload_n rfl rfl rfl ?_
          refine wr_iald rfl rfl (by assumption) (by omega) (by omega) ?_
          rw [Int.toNat_natCast, re2]
          refine wr_aload_n rfl rfl rfl ?_
          refine wr_get (ci := 12) (f := 9) rfl rfl rfl (by assumption) rfl ?_
          refine wr_iload_n rfl rfl rfl ?_
          refine wr_iald rfl rfl (by assumption) (by omega) (by omega) ?_
          rw [Int.toNat_natCast, re3]
          refine wr_cv2 (k' := 182) (ci := 12) rfl rfl rfl rfl (by assumption) rfl rfl (rr_holds (k := kd k) (far := fi k) w g ok hs r29 r30 r31 (by omega) (by omega) k69 rfl ⟨a3, a4⟩) (fun r h2 q => ?_)
          obtain ⟨rfl, o2, w, n2⟩ := q
          have cO := w.cO
          have c69 := w.arr (p := 169) (n := 300) (by decide) (by decide)
          have c70 := w.arr (p := 170) (n := 300) (by decide) (by decide)
          have c71 := w.arr (p := 171) (n := 300) (by decide) (by decide)
          have c72 := w.arr (p := 172) (n := 300) (by decide) (by decide)
          have c73 := w.arr (p := 173) (n := 14) (by decide) (by decide)
          have c80 := w.arr (p := 180) (n := 24) (by decide) (by decide)
          have f27 : o2 27 = (w1.ch : Int) := by rw [n2 27 (by decide) (by decide) (by decide), r27]
          obtain ⟨gv, hgv⟩ : ∃ gv, gv = A 172 k := ⟨_, rfl⟩
          have gr : -145 ≤ gv ∧ gv ≤ 144 := by rw [hgv, re4]; split <;> omega
          have ask : ∀ (v : Int) (A3 : Nat → Nat → Int) (o3 : Nat → Int), A3 180 = updI (A 180) w1.ch v → (∀ j, j ≠ 180 → A3 j = A j) → o3 27 = (w1.ch : Int) + 1 → (∀ j, j ≠ 27 → o3 j = o2 j) → RKW ax sg (WS.mk w1.s w1.eo w1.el (w1.ch + 1) (updI w1.tk w1.ch v)) o3 F A3 ∧ kpW ax o F A o3 F A3 ∧ A3 179 = A 179 := by
            intro v A3 o3 sA nA s3 n3
            refine ⟨R.ask (by rw [s3, r27]) (fun j x y z => by rw [n3 j y, n2 j (by omega) (by omega) (by omega)]) sA (nA _ (by decide)), ⟨fun j x y => by rw [n3 j x, n2 j (by omega) (by omega) (by omega)], fun j _ _ z => nA j z, fun j _ => by rw [nA 178 (by decide)], fun _ _ => rfl⟩, nA _ (by decide)⟩
          by_cases hp : holdP (kd k) (fi k) (gapS n off lev sg (w1.s.ou w1.s.N) (w1.s.hi w1.s.N)) (1000 * gL n off (sg * w1.s.ou w1.s.N))
          ·
            rw [if_pos hp] at eW
            rw [b2_t hp]
            refine wr_istore (ls' := [_, _, _, _, _, _]) rfl rfl (Nat.le_of_ble_eq_true rfl) rfl ?_
            refine wr_aload_n rfl rfl rfl ?_
            refine wr_get (ci := 12) (f := 28) rfl rfl rfl (by assumption) rfl ?_
            refine wr_aload_n rfl rfl rfl ?_
            refine wr_get (ci := 12) (f := 27) rfl rfl rfl (by assumption) rfl ?_
            rw [f27]
            refine wr_iload rfl rfl rfl ?_
            refine wr_if_eq rfl rfl rfl (by omega) (fun c306 => by exfalso; omega) (fun c306 => ?_)
            refine wr_iconst rfl rfl ?_
            refine wr_goto rfl rfl ?_
            refine wr_iast rfl rfl (by assumption) (by omega) (by omega) (fun h1 e1 => ?_)
            rw [Int.toNat_natCast] at e1
            have w := e1 ▸ (w.setA (p := 180) (n := 24) (by decide) (by decide) (updI (A 180) (w1.ch) (1))).2
            clear e1
            obtain ⟨A3, w, sA, nA⟩ := fa_ex w
            have cO := w.cO
            refine wr_aload_n rfl rfl rfl ?_
            refine wr_dup rfl rfl ?_
            refine wr_get (ci := 12) (f := 27) rfl rfl rfl (by assumption) rfl ?_
            rw [f27]
            refine wr_iconst rfl rfl ?_
            refine wr_iadd rfl rfl ?_
            refine wr_putI (ci := 12) (f := 27) (fs' := [_, _, _, _, _, _, _, _, _, _, _, _, _, _, _, _, _, _, _, _, _, _, _, _, _, _, _, _, _, _, _, _, _, _, _, _, _, _, _]) rfl rfl rfl (by assumption) rfl rfl rfl (fun h1 e1 => ?_)
            have w : FW h0 h1 (updI o2 27 ((w1.ch:Int)+1)) F A3 := by rw [e1]; exact w.setO (updI o2 27 ((w1.ch:Int)+1))
            clear e1
            obtain ⟨o3, w, s3, n3⟩ := fo_ex w
            have cO := w.cO
            obtain ⟨R', kp, e9⟩ := ask 1 A3 o3 sA nA s3 n3
            refine wr_iload rfl rfl rfl ?_
            refine wr_if_eq rfl rfl rfl (by omega) (fun c340 => by exfalso; omega) (fun c340 => ?_)
            refine wr_iload rfl rfl rfl ?_
            refine wr_goto rfl rfl ?_
            refine wr_istore (ls' := [_, _, _, _, _, _]) rfl rfl (Nat.le_of_ble_eq_true rfl) rfl ?_
            refine wr_goto rfl rfl ?_
            refine wr_iload rfl rfl rfl ?_
            refine wr_istore_n (ls' := [_, _, _, _, _, _]) rfl rfl (Nat.le_of_ble_eq_true rfl) rfl ?_
            refine wr_goto rfl rfl ?_
            exact NX _ _ o3 F A3 _ _ _ eW w R' kp e9
          ·
            rw [if_neg hp] at eW
            rw [b2_f hp]
            by_cases s1 : se k = 1
            ·
              rw [if_pos s1] at eW
              rw [if_pos s1] at re4
              have gt : gv = (((ta k).toNat : Nat) : Int) := by omega
              refine wr_istore (ls' := [_, _, _, _, _, _]) rfl rfl (Nat.le_of_ble_eq_true rfl) rfl ?_
              refine wr_aload_n rfl rfl rfl ?_
              refine wr_get (ci := 12) (f := 28) rfl rfl rfl (by assumption) rfl ?_
              refine wr_aload_n rfl rfl rfl ?_
              refine wr_get (ci := 12) (f := 27) rfl rfl rfl (by assumption) rfl ?_
              rw [f27]
              refine wr_iload rfl rfl rfl ?_
              refine wr_if_eq rfl rfl rfl (by omega) (fun c306 => ?_) (fun c306 => by exfalso; omega)
              refine wr_aload_n rfl rfl rfl ?_
              refine wr_get (ci := 12) (f := 10) rfl rfl rfl (by assumption) rfl ?_
              refine wr_iload_n rfl rfl rfl ?_
              refine wr_iald rfl rfl (by assumption) (by omega) (by omega) ?_
              rw [Int.toNat_natCast, ← hgv]
              refine wr_if_lt rfl rfl rfl (by omega) (fun c319 => by exfalso; omega) (fun c319 => ?_)
              refine wr_iconst rfl rfl ?_
              refine wr_goto rfl rfl ?_
              refine wr_iast rfl rfl (by assumption) (by omega) (by omega) (fun h1 e1 => ?_)
              rw [Int.toNat_natCast] at e1
              have w := e1 ▸ (w.setA (p := 180) (n := 24) (by decide) (by decide) (updI (A 180) (w1.ch) (2))).2
              clear e1
              obtain ⟨A3, w, sA, nA⟩ := fa_ex w
              have cO := w.cO
              refine wr_aload_n rfl rfl rfl ?_
              refine wr_dup rfl rfl ?_
              refine wr_get (ci := 12) (f := 27) rfl rfl rfl (by assumption) rfl ?_
              rw [f27]
              refine wr_iconst rfl rfl ?_
              refine wr_iadd rfl rfl ?_
              refine wr_putI (ci := 12) (f := 27) (fs' := [_, _, _, _, _, _, _, _, _, _, _, _, _, _, _, _, _, _, _, _, _, _, _, _, _, _, _, _, _, _, _, _, _, _, _, _, _, _, _]) rfl rfl rfl (by assumption) rfl rfl rfl (fun h1 e1 => ?_)
              have w : FW h0 h1 (updI o2 27 ((w1.ch:Int)+1)) F A3 := by rw [e1]; exact w.setO (updI o2 27 ((w1.ch:Int)+1))
              clear e1
              obtain ⟨o3, w, s3, n3⟩ := fo_ex w
              have cO := w.cO
              obtain ⟨R', kp, e9⟩ := ask 2 A3 o3 sA nA s3 n3
              have c72 := w.arr (p := 172) (n := 300) (by decide) (by decide)
              rw [nA 172 (by decide)] at c72
              refine wr_iload rfl rfl rfl ?_
              refine wr_if_eq rfl rfl rfl (by omega) (fun c340 => ?_) (fun c340 => by exfalso; omega)
              refine wr_aload_n rfl rfl rfl ?_
              refine wr_get (ci := 12) (f := 10) rfl rfl rfl (by assumption) rfl ?_
              refine wr_iload_n rfl rfl rfl ?_
              refine wr_iald rfl rfl (by assumption) (by omega) (by omega) ?_
              rw [Int.toNat_natCast, ← hgv]
              refine wr_if_lt rfl rfl rfl (by omega) (fun c354 => by exfalso; omega) (fun c354 => ?_)
              refine wr_aload_n rfl rfl rfl ?_
              refine wr_get (ci := 12) (f := 10) rfl rfl rfl (by assumption) rfl ?_
              refine wr_iload_n rfl rfl rfl ?_
              refine wr_iald rfl rfl (by assumption) (by omega) (by omega) ?_
              rw [Int.toNat_natCast, ← hgv]
              refine wr_goto rfl rfl ?_
              refine wr_istore (ls' := [_, _, _, _, _, _]) rfl rfl (Nat.le_of_ble_eq_true rfl) rfl ?_
              refine wr_goto rfl rfl ?_
              refine wr_iload rfl rfl rfl ?_
              refine wr_istore_n (ls' := [_, _, _, _, _, _]) rfl rfl (Nat.le_of_ble_eq_true rfl) rfl ?_
              refine wr_goto rfl rfl ?_
              rw [gt]
              exact NX _ _ o3 F A3 _ _ _ eW w R' kp e9
            ·
              rw [if_neg s1] at eW
              rw [if_neg s1] at re4
              have gt : -1 - gv = (((ta k).toNat : Nat) : Int) := by omega
              refine wr_istore (ls' := [_, _, _, _, _, _]) rfl rfl (Nat.le_of_ble_eq_true rfl) rfl ?_
              refine wr_aload_n rfl rfl rfl ?_
              refine wr_get (ci := 12) (f := 28) rfl rfl rfl (by assumption) rfl ?_
              refine wr_aload_n rfl rfl rfl ?_
              refine wr_get (ci := 12) (f := 27) rfl rfl rfl (by assumption) rfl ?_
              rw [f27]
              refine wr_iload rfl rfl rfl ?_
              refine wr_if_eq rfl rfl rfl (by omega) (fun c306 => ?_) (fun c306 => by exfalso; omega)
              refine wr_aload_n rfl rfl rfl ?_
              refine wr_get (ci := 12) (f := 10) rfl rfl rfl (by assumption) rfl ?_
              refine wr_iload_n rfl rfl rfl ?_
              refine wr_iald rfl rfl (by assumption) (by omega) (by omega) ?_
              rw [Int.toNat_natCast, ← hgv]
              refine wr_if_lt rfl rfl rfl (by omega) (fun c319 => ?_) (fun c319 => by exfalso; omega)
              refine wr_iconst rfl rfl ?_
              refine wr_iast rfl rfl (by assumption) (by omega) (by omega) (fun h1 e1 => ?_)
              rw [Int.toNat_natCast] at e1
              have w := e1 ▸ (w.setA (p := 180) (n := 24) (by decide) (by decide) (updI (A 180) (w1.ch) (0))).2
              clear e1
              obtain ⟨A3, w, sA, nA⟩ := fa_ex w
              have cO := w.cO
              refine wr_aload_n rfl rfl rfl ?_
              refine wr_dup rfl rfl ?_
              refine wr_get (ci := 12) (f := 27) rfl rfl rfl (by assumption) rfl ?_
              rw [f27]
              refine wr_iconst rfl rfl ?_
              refine wr_iadd rfl rfl ?_
              refine wr_putI (ci := 12) (f := 27) (fs' := [_, _, _, _, _, _, _, _, _, _, _, _, _, _, _, _, _, _, _, _, _, _, _, _, _, _, _, _, _, _, _, _, _, _, _, _, _, _, _]) rfl rfl rfl (by assumption) rfl rfl rfl (fun h1 e1 => ?_)
              have w : FW h0 h1 (updI o2 27 ((w1.ch:Int)+1)) F A3 := by rw [e1]; exact w.setO (updI o2 27 ((w1.ch:Int)+1))
              clear e1
              obtain ⟨o3, w, s3, n3⟩ := fo_ex w
              have cO := w.cO
              obtain ⟨R', kp, e9⟩ := ask 0 A3 o3 sA nA s3 n3
              have c72 := w.arr (p := 172) (n := 300) (by decide) (by decide)
              rw [nA 172 (by decide)] at c72
              refine wr_iload rfl rfl rfl ?_
              refine wr_if_eq rfl rfl rfl (by omega) (fun c340 => ?_) (fun c340 => by exfalso; omega)
              refine wr_aload_n rfl rfl rfl ?_
              refine wr_get (ci := 12) (f := 10) rfl rfl rfl (by assumption) rfl ?_
              refine wr_iload_n rfl rfl rfl ?_
              refine wr_iald rfl rfl (by assumption) (by omega) (by omega) ?_
              rw [Int.toNat_natCast, ← hgv]
              refine wr_if_lt rfl rfl rfl (by omega) (fun c354 => ?_) (fun c354 => by exfalso; omega)
              refine wr_iconst rfl rfl ?_
              refine wr_aload_n rfl rfl rfl ?_
              refine wr_get (ci := 12) (f := 10) rfl rfl rfl (by assumption) rfl ?_
              refine wr_iload_n rfl rfl rfl ?_
              refine wr_iald rfl rfl (by assumption) (by omega) (by omega) ?_
              rw [Int.toNat_natCast, ← hgv]
              refine wr_isub rfl rfl ?_
              refine wr_istore (ls' := [_, _, _, _, _, _]) rfl rfl (Nat.le_of_ble_eq_true rfl) rfl ?_
              refine wr_goto rfl rfl ?_
              refine wr_iload rfl rfl rfl ?_
              refine wr_istore_n (ls' := [_, _, _, _, _, _]) rfl rfl (Nat.le_of_ble_eq_true rfl) rfl ?_
              refine wr_goto rfl rfl ?_
              rw [gt]
              exact NX _ _ o3 F A3 _ _ _ eW w R' kp e9
        · have t1 := tk (by omega)
          have eW : wStep kd fi se ta n off lev sg bank w1 k = (w1, (ta k).toNat) := by
            unfold wStep
            rw [if_pos k10]
          have gt : ta k = (((ta k).toNat : Nat) : Int) := by omega
          refine wr_iload_n rfl rfl rfl ?_
          refine wr_aload_n rfl rfl rfl ?_
          refine wr_get (ci := 12) (f := 11) rfl rfl rfl (by assumption) rfl ?_
          refine wr_iload_n rfl rfl rfl ?_
          refine wr_iconst rfl rfl ?_
          refine wr_iadd rfl rfl ?_
          refine wr_iald rfl rfl (by assumption) (by omega) (by omega) ?_
          rw [et, eb]
          refine wr_icmp_ge rfl rfl rfl (by omega) (by omega) (fun c49 => by exfalso; omega) (fun c49 => ?_)
          refine wr_aload_n rfl rfl rfl ?_
          refine wr_get (ci := 12) (f := 33) rfl rfl rfl (by assumption) rfl ?_
          rw [e33]
          refine wr_if_ne rfl rfl rfl (by omega) (fun c56 => by exfalso; omega) (fun c56 => ?_)
          refine wr_iload_n rfl rfl rfl ?_
          refine wr_iconst rfl rfl ?_
          refine wr_iadd rfl rfl ?_
          refine wr_istore (ls' := [_, _, _, _, _, _]) rfl rfl (Nat.le_of_ble_eq_true rfl) rfl ?_
          refine wr_aload_n rfl rfl rfl ?_
          refine wr_get (ci := 12) (f := 7) rfl rfl rfl (by assumption) rfl ?_
          refine wr_iload_n rfl rfl rfl ?_
          refine wr_iald rfl rfl (by assumption) (by omega) (by omega) ?_
          rw [Int.toNat_natCast, re1]
          refine sw_170_70 (by omega) (fun c70 => by exfalso; omega) (fun c70 => by exfalso; omega) (fun c70 => by exfalso; omega) (fun c70 => by exfalso; omega) (fun c70 => by exfalso; omega) (fun c70 => by exfalso; omega) (fun c70_0 c70_1 c70_2 c70_3 c70_4 c70_5 => ?_)
          refine wr_aload_n rfl rfl rfl ?_
          refine wr_get (ci := 12) (f := 10) rfl rfl rfl (by assumption) rfl ?_
          refine wr_iload_n rfl rfl rfl ?_
          refine wr_iald rfl rfl (by assumption) (by omega) (by omega) ?_
          rw [Int.toNat_natCast, re2, gt]
          refine wr_istore (ls' := [_, _, _, _, _, _]) rfl rfl (Nat.le_of_ble_eq_true rfl) rfl ?_
          refine wr_iload rfl rfl rfl ?_
          refine wr_istore_n (ls' := [_, _, _, _, _, _]) rfl rfl (Nat.le_of_ble_eq_true rfl) rfl ?_
          refine wr_goto rfl rfl ?_
          exact NX _ _ o F A _ _ _ eW w R kpW.rf rfl
      ·
        rw [wLoop, if_neg (fun q => e0 q.2)]
        refine wr_iload_n rfl rfl rfl ?_
        refine wr_aload_n rfl rfl rfl ?_
        refine wr_get (ci := 12) (f := 11) rfl rfl rfl (by assumption) rfl ?_
        refine wr_iload_n rfl rfl rfl ?_
        refine wr_iconst rfl rfl ?_
        refine wr_iadd rfl rfl ?_
        refine wr_iald rfl rfl (by assumption) (by omega) (by omega) ?_
        rw [et, eb]
        refine wr_icmp_ge rfl rfl rfl (by omega) (by omega) (fun c49 => by exfalso; omega) (fun c49 => ?_)
        refine wr_aload_n rfl rfl rfl ?_
        refine wr_get (ci := 12) (f := 33) rfl rfl rfl (by assumption) rfl ?_
        rw [e33]
        refine wr_if_ne rfl rfl rfl (by omega) (fun c56 => ?_) (fun c56 => by exfalso; omega)
        exact rr_walkE w hs R I.ok.2.1
    ·
      rw [wLoop, if_neg (fun q => kl q.1)]
      refine wr_iload_n rfl rfl rfl ?_
      refine wr_aload_n rfl rfl rfl ?_
      refine wr_get (ci := 12) (f := 11) rfl rfl rfl (by assumption) rfl ?_
      refine wr_iload_n rfl rfl rfl ?_
      refine wr_iconst rfl rfl ?_
      refine wr_iadd rfl rfl ?_
      refine wr_iald rfl rfl (by assumption) (by omega) (by omega) ?_
      rw [et, eb]
      refine wr_icmp_ge rfl rfl rfl (by omega) (by omega) (fun c49 => ?_) (fun c49 => by exfalso; omega)
      exact rr_walkE w hs R I.ok.2.1
end RSE
