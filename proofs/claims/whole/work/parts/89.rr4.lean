/-! THE REFERENCE READS: rows, steps, questions -/
def rowX (op a b kd fi se : Int) : Prop := (kd ≤ 5 ∧ op = kd ∧ a = fi ∧ b = se) ∨ ((6 ≤ kd ∧ kd ≤ 9) ∧ op = 6 ∧ a = (if kd = 6 then 99 else if kd = 7 then 102 else if kd = 8 then 111 else 104) ∧ b = fi) ∨ (kd = 10 ∧ op = 7)
def gE (g kd se ta : Int) : Prop := ((6 ≤ kd ∧ kd ≤ 9) → g = (if se = 1 then ta else -1 - ta)) ∧ (kd = 10 → g = ta)
theorem rowE_of {op x y g kd fi se ta : Int} (a : rowX op x y kd fi se) (b : gE g kd se ta) : rowE op x y g kd fi se ta := by
  rcases a with a | ⟨a1, a2, a3, a4⟩ | ⟨a1, a2⟩
  · exact Or.inl a
  · exact Or.inr (Or.inl ⟨a1, a2, a3, a4, b.1 a1⟩)
  · exact Or.inr (Or.inr ⟨a1, a2, b.2 a1⟩)
/-- the rows that the reference has drafted -/
def PD (s : PT) (o : Nat → Int) (A : Nat → Nat → Int) : Prop := (o 13 = s.od ∧ o 16 = s.op) ∧ (∀ i, i < s.op → A 174 i = s.wt i) ∧ (∀ j, j < s.od → rowX (A 169 (150 + j)) (A 170 (150 + j)) (A 171 (150 + j)) (s.kd j) (s.fi j) (s.se j)) ∧ (∀ j, j < s.od → (∀ i, i < s.op → s.wt i ≠ (j : Int)) → gE (A 172 (150 + j)) (s.kd j) (s.se j) (s.ta j)) ∧ ∀ i, i < s.op → s.kd (s.wt i).toNat ≠ 10 → s.se (s.wt i).toNat = 0
def kpO (o o' : Nat → Int) : Prop := ∀ j, j ≠ 5 → j ≠ 6 → j ≠ 13 → j ≠ 14 → j ≠ 16 → o' j = o j
def kpA (A A' : Nat → Nat → Int) : Prop := (∀ j, j ≠ 169 → j ≠ 170 → j ≠ 171 → j ≠ 172 → j ≠ 174 → A' j = A j) ∧ ∀ j i, i < 150 → j ≠ 174 → A' j i = A j i
def rowd (A A' : Nat → Nat → Int) (r : Nat) (a b c : Int) : Prop := A' 169 = updI (A 169) (150 + r) a ∧ A' 170 = updI (A 170) (150 + r) b ∧ A' 171 = updI (A 171) (150 + r) c ∧ A' 172 = updI (A 172) (150 + r) 0 ∧ ∀ j, j ≠ 169 → j ≠ 170 → j ≠ 171 → j ≠ 172 → A' j = A j
section RRF
variable {X : Nat × (Nat → Int32)} {h0 h h' : am_H} {o o' o'' : Nat → Int} {A A' A'' : Nat → Nat → Int} {F F' : Nat → Rat} {T : Nat → Int} {n : Nat}
theorem kpO.rf : kpO o o := fun _ _ _ _ _ _ => rfl
theorem kpA.rf : kpA A A := ⟨fun _ _ _ _ _ _ => rfl, fun _ _ _ _ => rfl⟩
theorem kpO.tr (a : kpO o o') (b : kpO o' o'') : kpO o o'' := fun j x y z u v => (b j x y z u v).trans (a j x y z u v)
theorem kpA.tr (a : kpA A A') (b : kpA A' A'') : kpA A A'' := ⟨fun j x y z u v => (b.1 j x y z u v).trans (a.1 j x y z u v), fun j i x y => (b.2 j i x y).trans (a.2 j i x y)⟩
theorem rowd.kp {r : Nat} {a b c : Int} (q : rowd A A' r a b c) : kpA A A' := by
  obtain ⟨q1, q2, q3, q4, q5⟩ := q
  refine ⟨fun j x y z u v => q5 j x y z u, fun j i x y => ?_⟩
  by_cases e1 : j = 169
  · subst e1; rw [q1, updI_n (by omega)]
  by_cases e2 : j = 170
  · subst e2; rw [q2, updI_n (by omega)]
  by_cases e3 : j = 171
  · subst e3; rw [q3, updI_n (by omega)]
  by_cases e4 : j = 172
  · subst e4; rw [q4, updI_n (by omega)]
  rw [q5 j e1 e2 e3 e4]
theorem kpA.opn {x : Nat} {v : Int} (e : A' 174 = updI (A 174) x v) (k : ∀ j, j ≠ 174 → A' j = A j) : kpA A A' := ⟨fun j _ _ _ _ y => k j y, fun j i _ y => by rw [k j y]⟩
theorem kpA.goe {x : Nat} {v : Int} (e : A' 172 = updI (A 172) (150 + x) v) (k : ∀ j, j ≠ 172 → A' j = A j) : kpA A A' := by
  refine ⟨fun j _ _ _ y _ => k j y, fun j i hi y => ?_⟩
  by_cases q : j = 172
  · subst q; rw [e, updI_n (by omega)]
  · rw [k j q]
theorem RT.kp (t : RT T n o A) (a : kpO o o') (b : kpA A A') : RT T n o' A' := t.keep (a 4 (by decide) (by decide) (by decide) (by decide) (by decide)) (b.1 168 (by decide) (by decide) (by decide) (by decide) (by decide))
theorem PD.keep {s : PT} (p : PD s o A) (e1 : o' 13 = o 13) (e2 : o' 16 = o 16) : PD s o' A := ⟨⟨e1.trans p.1.1, e2.trans p.1.2⟩, p.2⟩
theorem PD.addS {s : PT} {k f e : Int} (p : PD s o A) (r : rowd A A' s.od k f e) (e1 : o' 13 = o 13 + 1) (e2 : o' 16 = o 16) (hk : k ≤ 5) (W : ∀ i, i < s.op → 0 ≤ s.wt i ∧ s.wt i < s.od) : PD (s.step k f e) o' A' := by
  obtain ⟨⟨p1, p2⟩, p3, p4, p5, p6⟩ := p
  obtain ⟨r1, r2, r3, r4, r5⟩ := r
  refine ⟨⟨?_, ?_⟩, ?_, ?_, ?_, ?_⟩
  all_goals simp only [PT.step, PT.add, PT_kd, PT_fi, PT_se, PT_ta, PT_od, PT_st, PT_wt, PT_op]
  · omega
  · omega
  · rw [r5 174 (by decide) (by decide) (by decide) (by decide)]; exact p3
  · intro j hj
    rw [r1, r2, r3]
    by_cases q : j = s.od
    · subst q; simp only [updI_s]; exact Or.inl ⟨hk, rfl, rfl, rfl⟩
    · rw [updI_n q, updI_n q, updI_n q, updI_n (by omega), updI_n (by omega), updI_n (by omega)]; exact p4 j (by omega)
  · intro j hj nw
    rw [r4]
    by_cases q : j = s.od
    · subst q; simp only [updI_s]; exact ⟨fun c => by omega, fun c => by omega⟩
    · rw [updI_n q, updI_n q, updI_n (by omega)]; exact p5 j (by omega) nw
  · intro i hi
    have := W i hi
    rw [updI_n (by omega), updI_n (by omega)]
    exact p6 i hi
theorem PD.ask {s : PT} {k f c : Int} {A2 : Nat → Nat → Int} (p : PD s o A) (a1 : A2 174 = updI (A 174) s.op s.od) (a2 : ∀ j, j ≠ 174 → A2 j = A j) (r : rowd A2 A' s.od 6 c f) (e1 : o' 13 = o 13 + 1) (e2 : o' 16 = o 16 + 1) (hk : 6 ≤ k ∧ k ≤ 9) (hc : c = (if k = 6 then 99 else if k = 7 then 102 else if k = 8 then 111 else 104)) (W : ∀ i, i < s.op → 0 ≤ s.wt i ∧ s.wt i < s.od) : PD ((s.step k f 0).push s.od) o' A' := by
  obtain ⟨⟨p1, p2⟩, p3, p4, p5, p6⟩ := p
  obtain ⟨r1, r2, r3, r4, r5⟩ := r
  rw [a2 _ (by decide)] at r1 r2 r3 r4
  refine ⟨⟨?_, ?_⟩, ?_, ?_, ?_, ?_⟩
  all_goals simp only [PT.step, PT.add, PT.push, PT_kd, PT_fi, PT_se, PT_ta, PT_od, PT_st, PT_wt, PT_op]
  · omega
  · omega
  · intro i hi
    rw [r5 174 (by decide) (by decide) (by decide) (by decide), a1]
    by_cases q : i = s.op
    · subst q; rw [updI_s, updI_s]
    · rw [updI_n q, updI_n q]; exact p3 i (by omega)
  · intro j hj
    rw [r1, r2, r3]
    by_cases q : j = s.od
    · subst q; simp only [updI_s]; exact Or.inr (Or.inl ⟨hk, rfl, hc, rfl⟩)
    · rw [updI_n q, updI_n q, updI_n q, updI_n (by omega), updI_n (by omega), updI_n (by omega)]; exact p4 j (by omega)
  · intro j hj nw
    by_cases q : j = s.od
    · subst q
      exact absurd (updI_s _ _ _) (nw s.op (by omega))
    · rw [r4, updI_n q, updI_n q, updI_n (by omega)]
      refine p5 j (by omega) (fun i hi => ?_)
      have := nw i (by omega)
      rwa [updI_n (by omega)] at this
  · intro i hi
    by_cases q : i = s.op
    · subst q
      rw [updI_s, Int.toNat_natCast, updI_s, updI_s]
      exact fun _ => rfl
    · have := W i (by omega)
      rw [updI_n q, updI_n (by omega), updI_n (by omega)]
      exact p6 i (by omega)
theorem PD.pop {b : Nat} {s : PT} {g : Int} (p : PD s o A) (I : InvT b s) (ho : 0 < s.op) (a1 : A' 172 = updI (A 172) (150 + (s.wt (s.op - 1)).toNat) g) (a2 : ∀ j, j ≠ 172 → A' j = A j) (hg : g = (if s.kd (s.wt (s.op - 1)).toNat = 10 then (s.od : Int) else -1 - s.od)) (e1 : o' 13 = o 13) (e2 : o' 16 = o 16 - 1) : PD (((PT.mk s.kd s.fi s.se s.ta s.od s.st s.wt (s.op - 1)) : PT).aim (s.wt (s.op - 1)).toNat) o' A' := by
  obtain ⟨⟨p1, p2⟩, p3, p4, p5, p6⟩ := p
  have W := I.wtb (s.op - 1) (by omega)
  have p6' := p6 (s.op - 1) (by omega)
  obtain ⟨j0, hj⟩ : ∃ j0, j0 = (s.wt (s.op - 1)).toNat := ⟨_, rfl⟩
  rw [← hj] at a1 hg W p6' ⊢
  refine ⟨⟨?_, ?_⟩, ?_, ?_, ?_, ?_⟩
  all_goals simp only [PT.aim, PT_kd, PT_fi, PT_se, PT_ta, PT_od, PT_st, PT_wt, PT_op]
  · omega
  · omega
  · intro i hi
    rw [a2 174 (by decide)]
    exact p3 i (by omega)
  · rw [a2 169 (by decide), a2 170 (by decide), a2 171 (by decide)]; exact p4
  · intro j hj2 nw
    rw [a1]
    by_cases q : j = j0
    · subst q
      rw [updI_s, updI_s]
      have r := I.row j (by omega) hj2
      refine ⟨fun c => ?_, fun c => ?_⟩
      · rw [p6' (by omega), if_neg (by decide), hg, if_neg (by omega)]
      · rw [hg, if_pos c]
    · rw [updI_n q, updI_n (by omega)]
      refine p5 j hj2 (fun i hi => ?_)
      by_cases q2 : i = s.op - 1
      · subst q2; omega
      · exact nw i (by omega)
  · intro i hi
    exact p6 i (by omega)
theorem PD.leap {b : Nat} {s : PT} {A1 A2 : Nat → Nat → Int} (p : PD s o A) (I : InvT b s) (ho : 0 < s.op) (hk : s.kd (s.wt (s.op - 1)).toNat ≠ 10) (a1 : A1 174 = updI (A 174) (s.op - 1) s.od) (a2 : ∀ j, j ≠ 174 → A1 j = A j) (r : rowd A1 A2 s.od 7 0 0) (b1 : A' 172 = updI (A2 172) (150 + (s.wt (s.op - 1)).toNat) ((s.od + 1 : Nat) : Int)) (b2 : ∀ j, j ≠ 172 → A' j = A2 j) (e1 : o' 13 = o 13 + 1) (e2 : o' 16 = o 16) : PD (((((PT.mk s.kd s.fi (updI s.se (s.wt (s.op - 1)).toNat 1) s.ta s.od s.st s.wt (s.op - 1)) : PT).add 10 0 0).push s.od).aim (s.wt (s.op - 1)).toNat) o' A' := by
  obtain ⟨⟨p1, p2⟩, p3, p4, p5, p6⟩ := p
  obtain ⟨r1, r2, r3, r4, r5⟩ := r
  rw [a2 _ (by decide)] at r1 r2 r3 r4
  have W := I.wtb (s.op - 1) (by omega)
  have row := I.row
  have wm := fun i => I.wtm i (s.op - 1)
  have wb := I.wtb
  obtain ⟨j0, hj⟩ : ∃ j0, j0 = (s.wt (s.op - 1)).toNat := ⟨_, rfl⟩
  rw [← hj] at b1 hk W ⊢
  refine ⟨⟨?_, ?_⟩, ?_, ?_, ?_, ?_⟩
  all_goals simp only [PT.add, PT.push, PT.aim, PT_kd, PT_fi, PT_se, PT_ta, PT_od, PT_st, PT_wt, PT_op]
  · omega
  · omega
  · intro i hi
    rw [b2 174 (by decide), r5 174 (by decide) (by decide) (by decide) (by decide), a1]
    by_cases q : i = s.op - 1
    · subst q; rw [updI_s, updI_s]
    · rw [updI_n q, updI_n q]; exact p3 i (by omega)
  · intro j hj2
    rw [b2 169 (by decide), b2 170 (by decide), b2 171 (by decide), r1, r2, r3]
    by_cases q : j = s.od
    · subst q; simp only [updI_s]; exact Or.inr (Or.inr ⟨rfl, rfl⟩)
    · rw [updI_n q, updI_n q, updI_n q, updI_n (by omega), updI_n (by omega), updI_n (by omega)]
      have x := p4 j (by omega)
      by_cases q2 : j = j0
      · subst q2
        rw [updI_s]
        rcases x with x | x | x
        · omega
        · exact Or.inr (Or.inl x)
        · exact Or.inr (Or.inr x)
      · rw [updI_n q2]; exact x
  · intro j hj2 nw
    by_cases q : j = s.od
    · subst q
      exact absurd (updI_s _ _ _) (nw (s.op - 1) (by omega))
    rw [b1, r4, updI_n q, updI_n q]
    by_cases q2 : j = j0
    · subst q2
      simp only [updI_s]
      refine ⟨fun _ => ?_, fun c => absurd c hk⟩
      rw [if_pos rfl]
    · rw [updI_n q2, updI_n q2, updI_n (by omega), updI_n (by omega)]
      refine p5 j (by omega) (fun i hi => ?_)
      by_cases q3 : i = s.op - 1
      · subst q3; omega
      · have := nw i (by omega)
        rwa [updI_n q3] at this
  · intro i hi
    by_cases q : i = s.op - 1
    · subst q
      rw [updI_s, Int.toNat_natCast, updI_s, updI_s]
      exact fun c => absurd rfl c
    · have w1 := wm i (by omega) (by omega)
      have w2 := wb i (by omega)
      rw [updI_n q, updI_n (by omega), updI_n (by omega), updI_n (by omega)]
      exact p6 i (by omega)
/-! the calls -/
theorem rdQ.of {P P' : PR Int} {r : Option Value} (q : rdQ h0 o' F A n P r h) (k : ∀ j, j ≠ 5 → j ≠ 6 → j ≠ 14 → o' j = o j) (e : P = P') : rdQ h0 o F A n P' r h := by
  subst e
  obtain ⟨o2, w, n2, c⟩ := q
  exact ⟨o2, w, fun j a b c => (n2 j a b c).trans (k j a b c), c⟩
theorem pn_b0 (P : PR Int) : (match P with | .error q => (.error q : PR Int) | .ok (v, q) => .ok ((if (0 : Int) = 1 then -v else v), q)) = P := by
  cases P with
  | error q => rfl
  | ok a => obtain ⟨v, q⟩ := a; simp
theorem rr_num {d q : Nat} {mb mz : Int} (S : okS T n) (w : FW h0 h o F A) (t : RT T n o A) (e5 : o 5 = (q : Int)) (hq : q ≤ n) (hb : mb = 0 ∨ mb = 1 ∧ mz = 1) (hz : mz = 0 ∨ mz = 1) : am_c X (d + 2) 159 [.ref 164, .int (iI mb), .int (iI mz)] h (rdQ h0 o F A n (if mb = 1 then psnum T n q else pnum T n (if mz = 1 then 0 else 1) q)) := by
  have cO := w.cO
  have sb := sgA_IN S (skp T n q)
  have kb := (skp_spec T n q).2.1 hq
  have n4 := S.1
  refine am_c.of (Nat.le_of_ble_eq_true rfl) ?_
  show am_w _ _ _ (_, [_, _, _, _, _, _, _, _, _], _, _) _
  rcases hb with rfl | ⟨rfl, rfl⟩
  ·
    rw [if_neg (by decide)]
    refine wr_iload_n rfl rfl rfl ?_
    refine wr_if_eq rfl rfl rfl (by omega) (fun c1 => ?_) (fun c1 => by exfalso; omega)
    refine wr_iconst rfl rfl ?_
    refine wr_istore_n (ls' := [_, _, _, _, _, _, _, _, _]) rfl rfl (Nat.le_of_ble_eq_true rfl) rfl ?_
    refine wr_aload_n rfl rfl rfl ?_
    refine wr_dup rfl rfl ?_
    refine wr_get (ci := 12) (f := 5) rfl rfl rfl (by assumption) rfl ?_
    rw [e5]
    refine wr_iload_n rfl rfl rfl ?_
    refine wr_if_eq rfl rfl rfl (by omega) (fun c25 => ?_) (fun c25 => by exfalso; omega)
    refine wr_iconst rfl rfl ?_
    refine wr_iadd rfl rfl ?_
    refine wr_putI (ci := 12) (f := 5) (fs' := [_, _, _, _, _, _, _, _, _, _, _, _, _, _, _, _, _, _, _, _, _, _, _, _, _, _, _, _, _, _, _, _, _, _, _, _, _, _, _]) rfl rfl rfl (by assumption) rfl rfl rfl (fun h1 e1 => ?_)
    have w : FW h0 h1 (updI o 5 ((q:Int)+0)) F A := by rw [e1]; exact w.setO (updI o 5 ((q:Int)+0))
    clear e1
    obtain ⟨o2, w, s2, n2⟩ := fo_ex w
    have cO := w.cO
    refine (rr_num0 (mb := 0) (b := 0) S w (t.keep (n2 _ (by decide)) rfl) (by rw [s2]; omega) hq hz (Or.inl rfl)).mono (fun r h' k => k.of (fun j a b c => n2 j a) (pn_b0 _))
  ·
    rw [if_pos rfl]
    refine wr_iload_n rfl rfl rfl ?_
    refine wr_if_eq rfl rfl rfl (by omega) (fun c1 => by exfalso; omega) (fun c1 => ?_)
    refine wr_aload_n rfl rfl rfl ?_
    refine wr_cv0 (k' := 155) (ci := 12) rfl rfl rfl rfl (by assumption) rfl rfl (rr_nextC S w t e5 hq) (fun r h2 q => ?_)
    obtain ⟨rfl, o2, w, s2, n2⟩ := q
    have t2 := t.keep (n2 4 (by decide)) (rfl : A 168 = A 168)
    have cO := w.cO
    unfold psnum
    obtain ⟨s, es⟩ : ∃ s, s = skp T n q := ⟨_, rfl⟩
    rw [← es] at s2 sb kb ⊢
    by_cases c : sgA T n 0 s = 45
    ·
      rw [if_pos c]
      have := sb.2.2.1 (by omega)
      refine wr_bipush rfl rfl (by decide) ?_
      refine wr_icmp_ne rfl rfl rfl (by omega) (by omega) (fun c10 => by exfalso; omega) (fun c10 => ?_)
      refine wr_iconst rfl rfl ?_
      refine wr_goto rfl rfl ?_
      refine wr_istore_n (ls' := [_, _, _, _, _, _, _, _, _]) rfl rfl (Nat.le_of_ble_eq_true rfl) rfl ?_
      refine wr_aload_n rfl rfl rfl ?_
      refine wr_dup rfl rfl ?_
      refine wr_get (ci := 12) (f := 5) rfl rfl rfl (by assumption) rfl ?_
      rw [s2]
      refine wr_iload_n rfl rfl rfl ?_
      refine wr_if_eq rfl rfl rfl (by omega) (fun c25 => by exfalso; omega) (fun c25 => ?_)
      refine wr_iconst rfl rfl ?_
      refine wr_goto rfl rfl ?_
      refine wr_iadd rfl rfl ?_
      refine wr_putI (ci := 12) (f := 5) (fs' := [_, _, _, _, _, _, _, _, _, _, _, _, _, _, _, _, _, _, _, _, _, _, _, _, _, _, _, _, _, _, _, _, _, _, _, _, _, _, _]) rfl rfl rfl (by assumption) rfl rfl rfl (fun h1 e1 => ?_)
      have w : FW h0 h1 (updI o2 5 ((s:Int)+1)) F A := by rw [e1]; exact w.setO (updI o2 5 ((s:Int)+1))
      clear e1
      obtain ⟨o3, w, s3, n3⟩ := fo_ex w
      have cO := w.cO
      refine (rr_num0 (mb := 1) (mz := 1) (b := 1) (q := s + 1) S w (t2.keep (n3 _ (by decide)) rfl) (by rw [s3]; omega) (by omega) (Or.inr rfl) (Or.inr rfl)).mono (fun r h' k => k.of (fun j a b c => by rw [n3 j a, n2 j a]) ?_)
      rw [if_pos rfl]
      cases pnum T n 0 (s + 1) with
      | error q => rfl
      | ok a => obtain ⟨v, q⟩ := a; simp
    ·
      rw [if_neg c]
      refine wr_bipush rfl rfl (by decide) ?_
      refine wr_icmp_ne rfl rfl rfl (by omega) (by omega) (fun c10 => ?_) (fun c10 => by exfalso; omega)
      refine wr_iconst rfl rfl ?_
      refine wr_istore_n (ls' := [_, _, _, _, _, _, _, _, _]) rfl rfl (Nat.le_of_ble_eq_true rfl) rfl ?_
      refine wr_aload_n rfl rfl rfl ?_
      refine wr_dup rfl rfl ?_
      refine wr_get (ci := 12) (f := 5) rfl rfl rfl (by assumption) rfl ?_
      rw [s2]
      refine wr_iload_n rfl rfl rfl ?_
      refine wr_if_eq rfl rfl rfl (by omega) (fun c25 => ?_) (fun c25 => by exfalso; omega)
      refine wr_iconst rfl rfl ?_
      refine wr_iadd rfl rfl ?_
      refine wr_putI (ci := 12) (f := 5) (fs' := [_, _, _, _, _, _, _, _, _, _, _, _, _, _, _, _, _, _, _, _, _, _, _, _, _, _, _, _, _, _, _, _, _, _, _, _, _, _, _]) rfl rfl rfl (by assumption) rfl rfl rfl (fun h1 e1 => ?_)
      have w : FW h0 h1 (updI o2 5 ((s:Int)+0)) F A := by rw [e1]; exact w.setO (updI o2 5 ((s:Int)+0))
      clear e1
      obtain ⟨o3, w, s3, n3⟩ := fo_ex w
      have cO := w.cO
      refine (rr_num0 (mb := 1) (mz := 1) (b := 0) (q := s) S w (t2.keep (n3 _ (by decide)) rfl) (by rw [s3]; omega) (by omega) (Or.inr rfl) (Or.inl rfl)).mono (fun r h' k => k.of (fun j a b c => by rw [n3 j a, n2 j a]) ?_)
      rw [if_pos rfl]
      exact pn_b0 _
theorem rr_row {d r : Nat} {a b c : Int} (w : FW h0 h o F A) (e : o 13 = (r : Int)) (hr : r < 150) : am_c X (d + 1) 161 [.ref 164, .int (iI a), .int (iI b), .int (iI c)] h (fun v h' => v = none ∧ ∃ o' A', FW h0 h' o' F A' ∧ (o' 13 = o 13 + 1 ∧ ∀ j, j ≠ 13 → o' j = o j) ∧ rowd A A' r a b c) := by
  have cO := w.cO
  have cA := w.arr (p := 169) (n := 300) (by decide) (by decide)
  have et : (150 + (r : Int)).toNat = 150 + r := by omega
  refine am_c.of (Nat.le_of_ble_eq_true rfl) ?_
  show am_w _ _ _ (_, [_, _, _, _, _], _, _) _
  refine wr_sipush rfl rfl (by decide) ?_
  refine wr_aload_n rfl rfl rfl ?_
  refine wr_get (ci := 12) (f := 13) rfl rfl rfl (by assumption) rfl ?_
  rw [e]
  refine wr_iadd rfl rfl ?_
  refine wr_istore (ls' := [_, _, _, _, _]) rfl rfl (Nat.le_of_ble_eq_true rfl) rfl ?_
  refine wr_aload_n rfl rfl rfl ?_
  refine wr_get (ci := 12) (f := 7) rfl rfl rfl (by assumption) rfl ?_
  refine wr_iload rfl rfl rfl ?_
  refine wr_iload_n rfl rfl rfl ?_
  refine wr_iast rfl rfl (by assumption) (by omega) (by omega) (fun h1 e1 => ?_)
  rw [et] at e1
  have w := e1 ▸ (w.setA (p := 169) (n := 300) (by decide) (by decide) (updI (A 169) (150 + r) a)).2
  clear e1
  obtain ⟨A2, w, sA, nA⟩ := fa_ex w
  have cO := w.cO
  have cA := w.arr (p := 170) (n := 300) (by decide) (by decide)
  refine wr_aload_n rfl rfl rfl ?_
  refine wr_get (ci := 12) (f := 8) rfl rfl rfl (by assumption) rfl ?_
  refine wr_iload rfl rfl rfl ?_
  refine wr_iload_n rfl rfl rfl ?_
  refine wr_iast rfl rfl (by assumption) (by omega) (by omega) (fun h1 e1 => ?_)
  rw [et] at e1
  have w := e1 ▸ (w.setA (p := 170) (n := 300) (by decide) (by decide) (updI (A2 170) (150 + r) b)).2
  clear e1
  obtain ⟨A3, w, sB, nB⟩ := fa_ex w
  have cO := w.cO
  have cA := w.arr (p := 171) (n := 300) (by decide) (by decide)
  refine wr_aload_n rfl rfl rfl ?_
  refine wr_get (ci := 12) (f := 9) rfl rfl rfl (by assumption) rfl ?_
  refine wr_iload rfl rfl rfl ?_
  refine wr_iload_n rfl rfl rfl ?_
  refine wr_iast rfl rfl (by assumption) (by omega) (by omega) (fun h1 e1 => ?_)
  rw [et] at e1
  have w := e1 ▸ (w.setA (p := 171) (n := 300) (by decide) (by decide) (updI (A3 171) (150 + r) c)).2
  clear e1
  obtain ⟨A4, w, sC, nC⟩ := fa_ex w
  have cO := w.cO
  have cA := w.arr (p := 172) (n := 300) (by decide) (by decide)
  refine wr_aload_n rfl rfl rfl ?_
  refine wr_get (ci := 12) (f := 10) rfl rfl rfl (by assumption) rfl ?_
  refine wr_iload rfl rfl rfl ?_
  refine wr_iconst rfl rfl ?_
  refine wr_iast rfl rfl (by assumption) (by omega) (by omega) (fun h1 e1 => ?_)
  rw [et] at e1
  have w := e1 ▸ (w.setA (p := 172) (n := 300) (by decide) (by decide) (updI (A4 172) (150 + r) 0)).2
  clear e1
  obtain ⟨A5, w, sD, nD⟩ := fa_ex w
  have cO := w.cO
  refine wr_aload_n rfl rfl rfl ?_
  refine wr_dup rfl rfl ?_
  refine wr_get (ci := 12) (f := 13) rfl rfl rfl (by assumption) rfl ?_
  rw [e]
  refine wr_iconst rfl rfl ?_
  refine wr_iadd rfl rfl ?_
  refine wr_putI (ci := 12) (f := 13) (fs' := [_, _, _, _, _, _, _, _, _, _, _, _, _, _, _, _, _, _, _, _, _, _, _, _, _, _, _, _, _, _, _, _, _, _, _, _, _, _, _]) rfl rfl rfl (by assumption) rfl rfl rfl (fun h1 e1 => ?_)
  have w : FW h0 h1 (updI o 13 ((r:Int)+1)) F A5 := by rw [e1]; exact w.setO (updI o 13 ((r:Int)+1))
  clear e1
  obtain ⟨o2, w, s2, n2⟩ := fo_ex w
  have cO := w.cO
  refine wr_vret rfl rfl ?_
  refine ⟨rfl, o2, A5, w, ⟨s2, n2⟩, ?_, ?_, ?_, ?_, fun j x y z u => ?_⟩
  · rw [nD _ (by decide), nC _ (by decide), nB _ (by decide), sA]
  · rw [nD _ (by decide), nC _ (by decide), sB, nA _ (by decide)]
  · rw [nD _ (by decide), sC, nB _ (by decide), nA _ (by decide)]
  · rw [sD, nC _ (by decide), nB _ (by decide), nA _ (by decide)]
  · rw [nD j u, nC j z, nB j y, nA j x]
theorem rr_rowS {d : Nat} {s : PT} {k f e : Int} (w : FW h0 h o F A) (P : PD s o A) (hr : s.od < 150) (hk : k ≤ 5) (W : ∀ i, i < s.op → 0 ≤ s.wt i ∧ s.wt i < s.od) : am_c X (d + 1) 161 [.ref 164, .int (iI k), .int (iI f), .int (iI e)] h (fun v h' => v = none ∧ ∃ o' A', FW h0 h' o' F A' ∧ (∀ j, j ≠ 13 → o' j = o j) ∧ kpA A A' ∧ PD (s.step k f e) o' A') := by
  refine (rr_row w P.1.1 hr).mono (fun v h' q => ?_)
  obtain ⟨q1, o', A', q2, q3, q4⟩ := q
  exact ⟨q1, o', A', q2, q3.2, q4.kp, P.addS q4 q3.1 (q3.2 _ (by decide)) hk W⟩
theorem rr_open {d q op : Nat} (S : okS T n) (w : FW h0 h o F A) (t : RT T n o A) (e5 : o 5 = (q : Int)) (hq : q ≤ n) (e16 : o 16 = (op : Int)) (ho : op ≤ 5) : am_c X (d + 3) 160 [.ref 164] h (fun r h' => ∃ o', FW h0 h' o' F A ∧ (∀ j, j ≠ 5 → j ≠ 6 → o' j = o j) ∧ ((∃ q', popn T n op q = .ok ((), q') ∧ r = some (.int (iI 1)) ∧ o' 5 = (q' : Int)) ∨ (∃ q', popn T n op q = .error q' ∧ r = some (.int (iI 0)) ∧ o' 6 = (q' : Int)))) := by
  have cO := w.cO
  have sb := sgA_IN S (skp T n q)
  have kb := (skp_spec T n q).2.1 hq
  have n4 := S.1
  have id := skp_idem T n q
  refine am_c.of (Nat.le_of_ble_eq_true rfl) ?_
  show am_w _ _ _ (_, [_], _, _) _
  refine wr_aload_n rfl rfl rfl ?_
  refine wr_cv0 (k' := 155) (ci := 12) rfl rfl rfl rfl (by assumption) rfl rfl (rr_nextC S w t e5 hq) (fun r h2 q => ?_)
  obtain ⟨rfl, o2, w, s2, n2⟩ := q
  have t2 := t.keep (n2 4 (by decide)) (rfl : A 168 = A 168)
  have cO := w.cO
  have e16 : o2 16 = (op : Int) := by rw [n2 _ (by decide), e16]
  unfold popn
  obtain ⟨s, es⟩ : ∃ s, s = skp T n q := ⟨_, rfl⟩
  rw [← es] at s2 sb kb id ⊢
  have J : ¬ (sgA T n 0 s = 40 ∧ op = 5) → am_w X (d + 2) 160 (27, [.ref 164], [], h2) (fun r h' => ∃ o', FW h0 h' o' F A ∧ (∀ j, j ≠ 5 → j ≠ 6 → o' j = o j) ∧ ((∃ q', (if 5 ≤ op ∨ sgA T n 0 s ≠ 40 then (.error s : PR Unit) else .ok ((), (s + 1))) = .ok ((), q') ∧ r = some (.int (iI 1)) ∧ o' 5 = (q' : Int)) ∨ (∃ q', (if 5 ≤ op ∨ sgA T n 0 s ≠ 40 then (.error s : PR Unit) else .ok ((), (s + 1))) = .error q' ∧ r = some (.int (iI 0)) ∧ o' 6 = (q' : Int)))) := by
    intro no
    refine wr_aload_n rfl rfl rfl ?_
    refine wr_bipush rfl rfl (by decide) ?_
    refine wr_cv1 (k' := 156) (ci := 12) rfl rfl rfl rfl (by assumption) rfl rfl (rr_eat (q := s) S w t2 s2 kb (show (1 : Int) ≤ 40 ∧ (40 : Int) ≤ 126 by decide)) (fun r h2 q => ?_)
    unfold pexp at q
    rw [id] at q
    obtain ⟨o3, w, n3, c⟩ := q
    have kk : ∀ j, j ≠ 5 → j ≠ 6 → o3 j = o j := fun j a b => by rw [n3 j a b, n2 j a]
    by_cases e : sgA T n 0 s = 40
    · rw [if_pos e] at c
      rw [if_neg (by omega)]
      rcases c with ⟨q', c1, rfl, c3⟩ | ⟨q', c1, rfl, c3⟩
      ·
        refine wr_zret rfl rfl (by decide) ?_
        exact ⟨o3, w, kk, Or.inl ⟨q', c1, rfl, c3⟩⟩
      · cases c1
    · rw [if_neg e] at c
      rw [if_pos (Or.inr e)]
      rcases c with ⟨q', c1, rfl, c3⟩ | ⟨q', c1, rfl, c3⟩
      · cases c1
      ·
        refine wr_zret rfl rfl (by decide) ?_
        exact ⟨o3, w, kk, Or.inr ⟨q', c1, rfl, c3⟩⟩
  by_cases e : sgA T n 0 s = 40
  · by_cases f : op = 5
    ·
      refine wr_bipush rfl rfl (by decide) ?_
      refine wr_icmp_ne rfl rfl rfl (by omega) (by omega) (fun c6 => by exfalso; omega) (fun c6 => ?_)
      refine wr_aload_n rfl rfl rfl ?_
      refine wr_get (ci := 12) (f := 16) rfl rfl rfl (by assumption) rfl ?_
      rw [e16]
      refine wr_iconst rfl rfl ?_
      refine wr_icmp_ne rfl rfl rfl (by omega) (by omega) (fun c14 => by exfalso; omega) (fun c14 => ?_)
      refine wr_aload_n rfl rfl rfl ?_
      refine wr_aload_n rfl rfl rfl ?_
      refine wr_get (ci := 12) (f := 5) rfl rfl rfl (by assumption) rfl ?_
      rw [s2]
      refine wr_putI (ci := 12) (f := 6) (fs' := [_, _, _, _, _, _, _, _, _, _, _, _, _, _, _, _, _, _, _, _, _, _, _, _, _, _, _, _, _, _, _, _, _, _, _, _, _, _, _]) rfl rfl rfl (by assumption) rfl rfl rfl (fun h1 e1 => ?_)
      have w : FW h0 h1 (updI o2 6 (s)) F A := by rw [e1]; exact w.setO (updI o2 6 (s))
      clear e1
      obtain ⟨o3, w, s3, n3⟩ := fo_ex w
      have cO := w.cO
      refine wr_iconst rfl rfl ?_
      refine wr_zret rfl rfl (by decide) ?_
      rw [if_pos (Or.inl (by omega))]
      exact ⟨o3, w, fun j a b => by rw [n3 j b, n2 j a], Or.inr ⟨s, rfl, rfl, s3⟩⟩
    ·
      refine wr_bipush rfl rfl (by decide) ?_
      refine wr_icmp_ne rfl rfl rfl (by omega) (by omega) (fun c6 => by exfalso; omega) (fun c6 => ?_)
      refine wr_aload_n rfl rfl rfl ?_
      refine wr_get (ci := 12) (f := 16) rfl rfl rfl (by assumption) rfl ?_
      rw [e16]
      refine wr_iconst rfl rfl ?_
      refine wr_icmp_ne rfl rfl rfl (by omega) (by omega) (fun c14 => ?_) (fun c14 => by exfalso; omega)
      exact J (by omega)
  ·
    refine wr_bipush rfl rfl (by decide) ?_
    refine wr_icmp_ne rfl rfl rfl (by omega) (by omega) (fun c6 => ?_) (fun c6 => by exfalso; omega)
    exact J (by omega)
end RRF
