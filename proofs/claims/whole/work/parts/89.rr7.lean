/-! THE REFERENCE READS: the whole text -/
section RRI
variable {X : Nat × (Nat → Int32)} {h0 h h' : am_H} {o o' o'' : Nat → Int} {A A' A'' B : Nat → Nat → Int} {F F' : Nat → Rat} {T : Nat → Int} {n : Nat} {z : PS}
/-- the drafts' rows 0 .. i - 1 stand in their places -/
def cpA (B A : Nat → Nat → Int) (i : Nat) : Prop := (∀ x, (A 169 x = if x < i then B 169 (150 + x) else B 169 x) ∧ (A 170 x = if x < i then B 170 (150 + x) else B 170 x) ∧ (A 171 x = if x < i then B 171 (150 + x) else B 171 x) ∧ (A 172 x = if x < i then B 172 (150 + x) else B 172 x)) ∧ ∀ j, j ≠ 169 → j ≠ 170 → j ≠ 171 → j ≠ 172 → A j = B j
theorem cp_up {f g a : Nat → Int} {i : Nat} (h : ∀ x, a x = if x < i then g (150 + x) else g x) (hi : i < 150) (e : f = updI a i (a (150 + i))) : ∀ x, f x = if x < i + 1 then g (150 + x) else g x := by
  intro x
  rw [e]
  by_cases q : x = i
  · subst q
    rw [updI_s, h, if_neg (by omega), if_pos (by omega)]
  · rw [updI_n q, h]
    by_cases q2 : x < i
    · rw [if_pos q2, if_pos (by omega)]
    · rw [if_neg q2, if_neg (by omega)]
theorem rr_copy {d R : Nat} {k : Value} {Q : Option Value → am_H → Prop} (hR : R ≤ 144) (e13 : o 13 = (R : Int)) (K : ∀ (A' : Nat → Nat → Int) (h' : am_H), FW h0 h' o F A' → cpA B A' R → am_w X d 154 (203, [.ref 164, k, .int (iI 1), .int (iI R)], [], h') Q) : ∀ (m i : Nat) (A : Nat → Nat → Int) (h : am_H), i + m = R → FW h0 h o F A → cpA B A i → am_w X d 154 (125, [.ref 164, k, .int (iI 1), .int (iI i)], [], h) Q := by
  intro m
  induction m with
  | zero =>
    intro i A h hi w c
    have cO := w.cO
    have : i = R := by omega
    subst this
    refine wr_iload_n rfl rfl rfl ?_
    refine wr_aload_n rfl rfl rfl ?_
    refine wr_get (ci := 12) (f := 13) rfl rfl rfl (by assumption) rfl ?_
    rw [e13]
    refine wr_icmp_ge rfl rfl rfl (by omega) (by omega) (fun c130 => ?_) (fun c130 => by exfalso; omega)
    exact K A h w c
  | succ m ih =>
    intro i A h hi w c
    have cO := w.cO
    have et : (150 + (i : Int)).toNat = 150 + i := by omega
    have cA := w.arr (p := 169) (n := 300) (by decide) (by decide)
    refine wr_iload_n rfl rfl rfl ?_
    refine wr_aload_n rfl rfl rfl ?_
    refine wr_get (ci := 12) (f := 13) rfl rfl rfl (by assumption) rfl ?_
    rw [e13]
    refine wr_icmp_ge rfl rfl rfl (by omega) (by omega) (fun c130 => by exfalso; omega) (fun c130 => ?_)
    refine wr_aload_n rfl rfl rfl ?_
    refine wr_get (ci := 12) (f := 7) rfl rfl rfl (by assumption) rfl ?_
    refine wr_iload_n rfl rfl rfl ?_
    refine wr_aload_n rfl rfl rfl ?_
    refine wr_get (ci := 12) (f := 7) rfl rfl rfl (by assumption) rfl ?_
    refine wr_sipush rfl rfl (by decide) ?_
    refine wr_iload_n rfl rfl rfl ?_
    refine wr_iadd rfl rfl ?_
    refine wr_iald rfl rfl (by assumption) (by omega) (by omega) ?_
    rw [et]
    refine wr_iast rfl rfl (by assumption) (by omega) (by omega) (fun h1 e1 => ?_)
    rw [Int.toNat_natCast] at e1
    have w := e1 ▸ (w.setA (p := 169) (n := 300) (by decide) (by decide) (updI (A 169) (i) (A 169 (150 + i)))).2
    clear e1
    obtain ⟨A2, w, sA, nA⟩ := fa_ex w
    have cO := w.cO
    have cA := w.arr (p := 170) (n := 300) (by decide) (by decide)
    refine wr_aload_n rfl rfl rfl ?_
    refine wr_get (ci := 12) (f := 8) rfl rfl rfl (by assumption) rfl ?_
    refine wr_iload_n rfl rfl rfl ?_
    refine wr_aload_n rfl rfl rfl ?_
    refine wr_get (ci := 12) (f := 8) rfl rfl rfl (by assumption) rfl ?_
    refine wr_sipush rfl rfl (by decide) ?_
    refine wr_iload_n rfl rfl rfl ?_
    refine wr_iadd rfl rfl ?_
    refine wr_iald rfl rfl (by assumption) (by omega) (by omega) ?_
    rw [et]
    refine wr_iast rfl rfl (by assumption) (by omega) (by omega) (fun h1 e1 => ?_)
    rw [Int.toNat_natCast] at e1
    have w := e1 ▸ (w.setA (p := 170) (n := 300) (by decide) (by decide) (updI (A2 170) (i) (A2 170 (150 + i)))).2
    clear e1
    obtain ⟨A3, w, sB, nB⟩ := fa_ex w
    have cO := w.cO
    have cA := w.arr (p := 171) (n := 300) (by decide) (by decide)
    refine wr_aload_n rfl rfl rfl ?_
    refine wr_get (ci := 12) (f := 9) rfl rfl rfl (by assumption) rfl ?_
    refine wr_iload_n rfl rfl rfl ?_
    refine wr_aload_n rfl rfl rfl ?_
    refine wr_get (ci := 12) (f := 9) rfl rfl rfl (by assumption) rfl ?_
    refine wr_sipush rfl rfl (by decide) ?_
    refine wr_iload_n rfl rfl rfl ?_
    refine wr_iadd rfl rfl ?_
    refine wr_iald rfl rfl (by assumption) (by omega) (by omega) ?_
    rw [et]
    refine wr_iast rfl rfl (by assumption) (by omega) (by omega) (fun h1 e1 => ?_)
    rw [Int.toNat_natCast] at e1
    have w := e1 ▸ (w.setA (p := 171) (n := 300) (by decide) (by decide) (updI (A3 171) (i) (A3 171 (150 + i)))).2
    clear e1
    obtain ⟨A4, w, sC, nC⟩ := fa_ex w
    have cO := w.cO
    have cA := w.arr (p := 172) (n := 300) (by decide) (by decide)
    refine wr_aload_n rfl rfl rfl ?_
    refine wr_get (ci := 12) (f := 10) rfl rfl rfl (by assumption) rfl ?_
    refine wr_iload_n rfl rfl rfl ?_
    refine wr_aload_n rfl rfl rfl ?_
    refine wr_get (ci := 12) (f := 10) rfl rfl rfl (by assumption) rfl ?_
    refine wr_sipush rfl rfl (by decide) ?_
    refine wr_iload_n rfl rfl rfl ?_
    refine wr_iadd rfl rfl ?_
    refine wr_iald rfl rfl (by assumption) (by omega) (by omega) ?_
    rw [et]
    refine wr_iast rfl rfl (by assumption) (by omega) (by omega) (fun h1 e1 => ?_)
    rw [Int.toNat_natCast] at e1
    have w := e1 ▸ (w.setA (p := 172) (n := 300) (by decide) (by decide) (updI (A4 172) (i) (A4 172 (150 + i)))).2
    clear e1
    obtain ⟨A5, w, sD, nD⟩ := fa_ex w
    have cO := w.cO
    refine wr_iinc (ls' := [_, _, _, _]) rfl rfl rfl rfl ?_
    refine wr_goto rfl rfl ?_
    refine ih (i + 1) A5 _ (by omega) w ⟨fun x => ⟨?_, ?_, ?_, ?_⟩, fun j x y z u => by rw [nD j u, nC j z, nB j y, nA j x, c.2 j x y z u]⟩
    · exact cp_up (fun x => (c.1 x).1) (by omega) (by rw [nD _ (by decide), nC _ (by decide), nB _ (by decide), sA]) x
    · exact cp_up (fun x => (c.1 x).2.1) (by omega) (by rw [nD _ (by decide), nC _ (by decide), sB, nA _ (by decide)]) x
    · exact cp_up (fun x => (c.1 x).2.2.1) (by omega) (by rw [nD _ (by decide), sC, nB _ (by decide), nA _ (by decide)]) x
    · exact cp_up (fun x => (c.1 x).2.2.2) (by omega) (by rw [sD, nC _ (by decide), nB _ (by decide), nA _ (by decide)]) x
theorem rr_copy2 {d k : Nat} {Q : Option Value → am_H → Prop} (hk : k ≤ 6) (K : ∀ (A' : Nat → Nat → Int) (h' : am_H), FW h0 h' o F A' → (∀ x, x ≤ k → A' 173 x = B 173 (7 + x)) → (∀ j, j ≠ 173 → A' j = B j) → am_w X d 154 (231, [.ref 164, .int (iI k), .int (iI 1), .int (iI (k + 1))], [], h') Q) : ∀ (m i : Nat) (A : Nat → Nat → Int) (h : am_H), i + m = k + 1 → FW h0 h o F A → (∀ x, A 173 x = if x < i then B 173 (7 + x) else B 173 x) → (∀ j, j ≠ 173 → A j = B j) → am_w X d 154 (205, [.ref 164, .int (iI k), .int (iI 1), .int (iI i)], [], h) Q := by
  intro m
  induction m with
  | zero =>
    intro i A h hi w c cn
    have cO := w.cO
    refine wr_iload_n rfl rfl rfl ?_
    refine wr_iload_n rfl rfl rfl ?_
    refine wr_icmp_gt rfl rfl rfl (by omega) (by omega) (fun c207 => ?_) (fun c207 => by exfalso; omega)
    have := K A h w (fun x hx => by rw [c x, if_pos (by omega)]) cn
    rw [show (i : Int) = (k : Int) + 1 by omega]
    exact this
  | succ m ih =>
    intro i A h hi w c cn
    have cO := w.cO
    have et : (7 + (i : Int)).toNat = 7 + i := by omega
    have cA := w.arr (p := 173) (n := 14) (by decide) (by decide)
    refine wr_iload_n rfl rfl rfl ?_
    refine wr_iload_n rfl rfl rfl ?_
    refine wr_icmp_gt rfl rfl rfl (by omega) (by omega) (fun c207 => by exfalso; omega) (fun c207 => ?_)
    refine wr_aload_n rfl rfl rfl ?_
    refine wr_get (ci := 12) (f := 11) rfl rfl rfl (by assumption) rfl ?_
    refine wr_iload_n rfl rfl rfl ?_
    refine wr_aload_n rfl rfl rfl ?_
    refine wr_get (ci := 12) (f := 11) rfl rfl rfl (by assumption) rfl ?_
    refine wr_bipush rfl rfl (by decide) ?_
    refine wr_iload_n rfl rfl rfl ?_
    refine wr_iadd rfl rfl ?_
    refine wr_iald rfl rfl (by assumption) (by omega) (by omega) ?_
    rw [et]
    refine wr_iast rfl rfl (by assumption) (by omega) (by omega) (fun h1 e1 => ?_)
    rw [Int.toNat_natCast] at e1
    have w := e1 ▸ (w.setA (p := 173) (n := 14) (by decide) (by decide) (updI (A 173) (i) (A 173 (7 + i)))).2
    clear e1
    obtain ⟨A2, w, sA, nA⟩ := fa_ex w
    have cO := w.cO
    refine wr_iinc (ls' := [_, _, _, _]) rfl rfl rfl rfl ?_
    refine wr_goto rfl rfl ?_
    refine ih (i + 1) A2 _ (by omega) w (fun x => ?_) (fun j hj => by rw [nA j hj, cn j hj])
    rw [sA]
    by_cases q : x = i
    · subst q
      rw [updI_s, c, if_neg (by omega), if_pos (by omega)]
    · rw [updI_n q, c]
      by_cases q2 : x < i
      · rw [if_pos q2, if_pos (by omega)]
      · rw [if_neg q2, if_neg (by omega)]
theorem stOf_le {en : Nat → Int} {k : Nat} {x : Int} {t : Nat} (h : t ≤ k) : stOf (updI en k x) t = stOf en t := by
  unfold stOf
  split
  · rfl
  · rw [updI_n (by omega)]
def kpR (A A' : Nat → Nat → Int) : Prop := (∀ j, j ≠ 169 → j ≠ 170 → j ≠ 171 → j ≠ 172 → j ≠ 173 → j ≠ 174 → A' j = A j) ∧ (∀ j i, i < 150 → j ≠ 173 → j ≠ 174 → A' j i = A j i) ∧ ∀ i, i < 7 → A' 173 i = A 173 i
theorem kpA.R (k : kpA A A') : kpR A A' := ⟨fun j a b c d _ f => k.1 j a b c d f, fun j i a _ c => k.2 j i a c, fun i _ => by rw [k.1 173 (by decide) (by decide) (by decide) (by decide) (by decide)]⟩
theorem kpR.tr (a : kpR A A') (b : kpR A' A'') : kpR A A'' := ⟨fun j x y z u v t => (b.1 j x y z u v t).trans (a.1 j x y z u v t), fun j i x y t => (b.2.1 j i x y t).trans (a.2.1 j i x y t), fun i x => (b.2.2 i x).trans (a.2.2 i x)⟩
theorem kpR.be {x : Nat} {v : Int} (e : A' 173 = updI (A 173) (7 + x) v) (k : ∀ j, j ≠ 173 → A' j = A j) : kpR A A' := ⟨fun j _ _ _ _ y _ => k j y, fun j i _ y _ => by rw [k j y], fun i hi => by rw [e, updI_n (by omega)]⟩
/-- what read leaves -/
def raQ (h0 : am_H) (z : PS) (P : PR (PT × (Nat → Int) × Nat)) : Option Value → am_H → Prop := fun r h' => match P with
    | .error q => r = some (.int (iI (-1 - (q : Int)))) ∧ RR h' (PS.mk z.T (0) z.M z.gn z.go z.gl z.al z.ab z.ll z.lr z.wk z.vn z.vo z.vl z.L z.R z.eL z.fL z.eR z.fR z.ch z.tk z.ks z.lm z.cC z.cF z.vC z.vF) ∧ frI [(164, 181)] h0 h'
    | .ok (a, _) => r = some (.int (iI (a.2.2 : Int))) ∧ RR h' (readP z (Tm.mk a.1.kd a.1.fi a.1.se a.1.ta a.2.1 a.1.od a.1.st a.2.2)) ∧ frI [(164, 181)] h0 h'
theorem rr_readE {d q : Nat} {k x : Value} {o3 : Nat → Int} {A3 : Nat → Nat → Int} (V : VS z) (r : RS z o F A) (w : FW h0 h o3 F A3) (kO : kpO o o3) (kA : kpR A A3) (e6 : o3 6 = (q : Int)) : am_w X d 154 (94, [.ref 164, k, .int (iI 0), x], [], h) (raQ h0 z (.error q)) := by
  have cO := w.cO
  have ks := V.ksb
  have g := V.tm
  have od := g.od144
  have k6 := g.k6
  refine wr_aload_n rfl rfl rfl ?_
  refine wr_iconst rfl rfl ?_
  refine wr_putI (ci := 12) (f := 4) (fs' := [_, _, _, _, _, _, _, _, _, _, _, _, _, _, _, _, _, _, _, _, _, _, _, _, _, _, _, _, _, _, _, _, _, _, _, _, _, _, _]) rfl rfl rfl (by assumption) rfl rfl rfl (fun h1 e1 => ?_)
  have w : FW h0 h1 (updI o3 4 (0)) F A3 := by rw [e1]; exact w.setO (updI o3 4 (0))
  clear e1
  obtain ⟨o4, w, s4, n4⟩ := fo_ex w
  have cO := w.cO
  have e6 : o4 6 = (q : Int) := by rw [n4 6 (by decide), e6]
  refine wr_iload_n rfl rfl rfl ?_
  refine wr_if_ne rfl rfl rfl (by omega) (fun c100 => by exfalso; omega) (fun c100 => ?_)
  refine wr_iconst rfl rfl ?_
  refine wr_aload_n rfl rfl rfl ?_
  refine wr_get (ci := 12) (f := 6) rfl rfl rfl (by assumption) rfl ?_
  rw [e6]
  refine wr_isub rfl rfl ?_
  refine wr_iret rfl rfl ?_
  obtain ⟨wb, fb⟩ := w.base
  have kk : ∀ j, j ≠ 4 → j ≠ 5 → j ≠ 6 → j ≠ 13 → j ≠ 14 → j ≠ 16 → o4 j = o j := fun j a b c d e f => by rw [n4 j a, kO j b c d e f]
  have k2 : ∀ j, j < 12 → j = 12 ∨ 17 ≤ j → o4 j = o j := fun j a b => by omega
  have k3 : ∀ j, (j = 12 ∨ 17 ≤ j) → o4 j = o j := fun j b => kk j (by omega) (by omega) (by omega) (by omega) (by omega) (by omega)
  have a3 : ∀ j, 175 ≤ j → A3 j = A j := fun j b => kA.1 j (by omega) (by omega) (by omega) (by omega) (by omega) (by omega)
  refine ⟨rfl, ⟨o4, F, A3, wb, ⟨s4, fun i hi => absurd hi (Nat.not_lt_zero _)⟩, ⟨(k3 12 (Or.inl rfl)).trans r.m.1, fun i hi => ?_, fun j hj => ?_⟩, r.g.keep (k3 _ (by decide)) ⟨a3 _ (by decide), a3 _ (by decide)⟩, r.x.keep ⟨k3 _ (by decide), k3 _ (by decide)⟩ (a3 _ (by decide)), ?_, r.k.keep (k3 _ (by decide)) (a3 _ (by decide)) (fun _ _ _ => rfl) ks⟩, fb⟩
  · have hi : i ≤ z.M.sz := hi
    rw [kA.2.2 i (by omega)]
    exact r.m.2.1 i hi
  · have hj : j < z.M.od := hj
    rw [kA.2.1 169 j (by omega) (by decide) (by decide), kA.2.1 170 j (by omega) (by decide) (by decide), kA.2.1 171 j (by omega) (by decide) (by decide), kA.2.1 172 j (by omega) (by decide) (by decide)]
    exact r.m.2.2 j hj
  · exact (r.c.keep ⟨k3 _ (by decide), k3 _ (by decide), k3 _ (by decide)⟩ ⟨a3 _ (by decide), a3 _ (by decide), a3 _ (by decide)⟩ (fun _ _ => rfl)).cong ⟨⟨rfl, rfl, rfl, rfl, rfl, rfl⟩, rfl, rfl, rfl, rfl, rfl, rfl⟩
theorem rr_readO {d k q : Nat} {x : Value} {s : PT} {en : Nat → Int} {o3 : Nat → Int} {A3 : Nat → Nat → Int} (V : VS z) (r : RS z o F A) (w : FW h0 h o3 F A3) (kO : kpO o o3) (kA : kpR A A3) (P : PE s o3 A3) (g : GT s.kd s.fi s.se s.ta en s.od k) (B : ∀ i, i < k → A3 173 (7 + i) = (stOf en i : Int)) : am_w X d 154 (94, [.ref 164, .int (iI k), .int (iI 1), x], [], h) (raQ h0 z (.ok ((s, en, k), q))) := by
  have cO := w.cO
  have ks := V.ksb
  have od := g.od144
  have k6 := g.k6
  have se : (stOf en k : Int) = s.od := by
    unfold stOf
    rcases g.last with c | c
    · rw [if_pos c, g.od0 c]
    · by_cases c0 : k = 0
      · rw [if_pos c0, g.od0 c0]
      · rw [if_neg c0, c, Int.toNat_natCast]
  refine wr_aload_n rfl rfl rfl ?_
  refine wr_iconst rfl rfl ?_
  refine wr_putI (ci := 12) (f := 4) (fs' := [_, _, _, _, _, _, _, _, _, _, _, _, _, _, _, _, _, _, _, _, _, _, _, _, _, _, _, _, _, _, _, _, _, _, _, _, _, _, _]) rfl rfl rfl (by assumption) rfl rfl rfl (fun h1 e1 => ?_)
  have w : FW h0 h1 (updI o3 4 (0)) F A3 := by rw [e1]; exact w.setO (updI o3 4 (0))
  clear e1
  obtain ⟨o4, w, s4, n4⟩ := fo_ex w
  have cO := w.cO
  have e13 : o4 13 = (s.od : Int) := by rw [n4 13 (by decide), P.1]
  have et : (7 + (k : Int)).toNat = 7 + k := by omega
  have cA := w.arr (p := 173) (n := 14) (by decide) (by decide)
  refine wr_iload_n rfl rfl rfl ?_
  refine wr_if_ne rfl rfl rfl (by omega) (fun c100 => ?_) (fun c100 => by exfalso; omega)
  refine wr_aload_n rfl rfl rfl ?_
  refine wr_get (ci := 12) (f := 11) rfl rfl rfl (by assumption) rfl ?_
  refine wr_bipush rfl rfl (by decide) ?_
  refine wr_iload_n rfl rfl rfl ?_
  refine wr_iadd rfl rfl ?_
  refine wr_aload_n rfl rfl rfl ?_
  refine wr_get (ci := 12) (f := 13) rfl rfl rfl (by assumption) rfl ?_
  rw [e13]
  refine wr_iast rfl rfl (by assumption) (by omega) (by omega) (fun h1 e1 => ?_)
  rw [et] at e1
  have w := e1 ▸ (w.setA (p := 173) (n := 14) (by decide) (by decide) (updI (A3 173) (7 + k) ((s.od : Int)))).2
  clear e1
  obtain ⟨A4, w, sA, nA⟩ := fa_ex w
  have cO := w.cO
  refine wr_iconst rfl rfl ?_
  refine wr_istore_n (ls' := [_, _, _, _]) rfl rfl (Nat.le_of_ble_eq_true rfl) rfl ?_
  refine rr_copy (R := s.od) (B := A4) od e13 (fun A5 h5 w c5 => ?_) s.od 0 A4 _ (by omega) w ⟨fun x => ⟨by rw [if_neg (by omega)], by rw [if_neg (by omega)], by rw [if_neg (by omega)], by rw [if_neg (by omega)]⟩, fun _ _ _ _ _ => rfl⟩
  have cO := w.cO
  refine wr_iconst rfl rfl ?_
  refine wr_istore_n (ls' := [_, _, _, _]) rfl rfl (Nat.le_of_ble_eq_true rfl) rfl ?_
  refine rr_copy2 (B := A5) k6 (fun A6 h6 w c6 n6 => ?_) (k + 1) 0 A5 _ (by omega) w (fun x => by rw [if_neg (by omega)]) (fun _ _ => rfl)
  have cO := w.cO
  refine wr_aload_n rfl rfl rfl ?_
  refine wr_iload_n rfl rfl rfl ?_
  refine wr_putI (ci := 12) (f := 12) (fs' := [_, _, _, _, _, _, _, _, _, _, _, _, _, _, _, _, _, _, _, _, _, _, _, _, _, _, _, _, _, _, _, _, _, _, _, _, _, _, _]) rfl rfl rfl (by assumption) rfl rfl rfl (fun h1 e1 => ?_)
  have w : FW h0 h1 (updI o4 12 (k)) F A6 := by rw [e1]; exact w.setO (updI o4 12 (k))
  clear e1
  obtain ⟨o5, w, s5, n5⟩ := fo_ex w
  have cO := w.cO
  refine wr_aload_n rfl rfl rfl ?_
  refine wr_iconst rfl rfl ?_
  refine wr_putI (ci := 12) (f := 23) (fs' := [_, _, _, _, _, _, _, _, _, _, _, _, _, _, _, _, _, _, _, _, _, _, _, _, _, _, _, _, _, _, _, _, _, _, _, _, _, _, _]) rfl rfl rfl (by assumption) rfl rfl rfl (fun h1 e1 => ?_)
  have w : FW h0 h1 (updI o5 23 (0)) F A6 := by rw [e1]; exact w.setO (updI o5 23 (0))
  clear e1
  obtain ⟨o6, w, s6, n6'⟩ := fo_ex w
  have cO := w.cO
  refine wr_aload_n rfl rfl rfl ?_
  refine wr_iconst rfl rfl ?_
  refine wr_putI (ci := 12) (f := 27) (fs' := [_, _, _, _, _, _, _, _, _, _, _, _, _, _, _, _, _, _, _, _, _, _, _, _, _, _, _, _, _, _, _, _, _, _, _, _, _, _, _]) rfl rfl rfl (by assumption) rfl rfl rfl (fun h1 e1 => ?_)
  have w : FW h0 h1 (updI o6 27 (0)) F A6 := by rw [e1]; exact w.setO (updI o6 27 (0))
  clear e1
  obtain ⟨o7, w, s7, n7⟩ := fo_ex w
  have cO := w.cO
  refine wr_iload_n rfl rfl rfl ?_
  refine wr_iret rfl rfl ?_
  obtain ⟨wb, fb⟩ := w.base
  have k3 : ∀ j, 17 ≤ j → j ≠ 23 → j ≠ 27 → o7 j = o j := fun j b c d => by rw [n7 j d, n6' j c, n5 j (by omega), n4 j (by omega), kO j (by omega) (by omega) (by omega) (by omega) (by omega)]
  have a3 : ∀ j, 175 ≤ j → A6 j = A j := fun j b => by rw [n6 j (by omega), c5.2 j (by omega) (by omega) (by omega) (by omega), nA j (by omega), kA.1 j (by omega) (by omega) (by omega) (by omega) (by omega) (by omega)]
  refine ⟨rfl, ⟨o7, F, A6, wb, ⟨?_, fun i hi => absurd hi (Nat.not_lt_zero _)⟩, ⟨?_, fun i hi => ?_, fun j hj => ?_⟩, r.g.keep (k3 _ (by decide) (by decide) (by decide)) ⟨a3 _ (by decide), a3 _ (by decide)⟩, r.x.keep ⟨k3 _ (by decide) (by decide) (by decide), k3 _ (by decide) (by decide) (by decide)⟩ (a3 _ (by decide)), ⟨?_, ?_, ?_, ?_⟩, r.k.keep (k3 _ (by decide) (by decide) (by decide)) (a3 _ (by decide)) (fun _ _ _ => rfl) ks⟩, fb⟩
  · rw [n7 4 (by decide), n6' 4 (by decide), n5 4 (by decide), s4]; rfl
  · rw [n7 12 (by decide), n6' 12 (by decide), s5]; rfl
  · have hi : i ≤ k := hi
    show A6 173 i = (stOf en i : Int)
    rw [c6 i hi, c5.2 173 (by decide) (by decide) (by decide) (by decide), sA]
    by_cases q : i = k
    · subst q; rw [updI_s, se]
    · rw [updI_n (by omega)]; exact B i (by omega)
  · have hj : j < s.od := hj
    show rowE _ _ _ _ (s.kd j) (s.fi j) (s.se j) (s.ta j)
    have c := c5.1 j
    rw [if_pos hj, if_pos hj, if_pos hj, if_pos hj] at c
    rw [n6 169 (by decide), n6 170 (by decide), n6 171 (by decide), n6 172 (by decide), c.1, c.2.1, c.2.2.1, c.2.2.2, nA 169 (by decide), nA 170 (by decide), nA 171 (by decide), nA 172 (by decide)]
    exact rowE_of (P.2 j hj).1 (P.2 j hj).2
  · rw [n7 23 (by decide), s6]
    show (0 : Int) = if (0 : Int) = 1 then _ else 0
    rw [if_neg (by decide)]
  · exact fun _ => rfl
  · rw [s7]; decide
  · intro q
    exact absurd (show (0 : Int) = 1 from q) (by decide)
theorem rr_readL {d : Nat} (V : VS z) (r : RS z o F A) : ∀ (G k : Nat) (s : PT) (en : Nat → Int) (p p' : Nat) (o3 : Nat → Int) (A3 : Nat → Nat → Int) (h : am_H) (x : Value), 7 - k ≤ G → k ≤ 6 → FW h0 h o3 F A3 → kpO o o3 → kpR A A3 → PE s o3 A3 → GT s.kd s.fi s.se s.ta en s.od k → (∀ i, i < k → A3 173 (7 + i) = (stOf en i : Int)) → o3 5 = (p' : Int) → p' ≤ z.n → skp z.T z.n p' = p → am_w X (d + 5) 154 (19, [.ref 164, .int (iI k), .int (iI 1), x], [], h) (raQ h0 z (pall z.T z.n G s en k p)) := by
  intro G
  induction G with
  | zero => intro k s en p p' o3 A3 h x hG hk; omega
  | succ G ih =>
    intro k s en p p' o3 A3 h x hG hk w kO kA P g B e5 hp' ep
    have S := V.txt
    have kb := (skp_spec z.T z.n p').2.1 hp'
    rw [ep] at kb
    have idp : skp z.T z.n p = p := by rw [← ep]; exact skp_idem _ _ _
    have sb := sgA_IN S p
    have n4 := S.1
    have t3 : RT z.T z.n o3 A3 := r.t.keep (kO 4 (by decide) (by decide) (by decide) (by decide) (by decide)) (kA.1 168 (by decide) (by decide) (by decide) (by decide) (by decide) (by decide))
    have o120 : k < 6 → s.od ≤ 24 * k := by
      intro _
      rcases g.last with c | c
      · rw [g.od0 c]; omega
      · have : ∀ t, t < k → en t ≤ 24 * (t + 1) := by
          intro t
          induction t with
          | zero => intro h; have := g.mono 0 h; unfold stOf at this; simp at this; omega
          | succ t ih =>
            intro h
            have a := ih (by omega)
            have b := g.mono (t + 1) h
            unfold stOf at b
            simp at b
            omega
        by_cases k0 : k = 0
        · rw [g.od0 k0]; omega
        · have := this (k - 1) (by omega)
          omega
    have se : (s.od : Int) = (stOf en k : Int) := by
      unfold stOf
      rcases g.last with c | c
      · rw [if_pos c, g.od0 c]
      · by_cases c0 : k = 0
        · rw [if_pos c0, g.od0 c0]
        · rw [if_neg c0, c, Int.toNat_natCast]
    have cO := w.cO
    have K : ∀ (h : am_H) (o3 : Nat → Int) (p' : Nat), ¬ (z.n ≤ p ∧ 0 < k) → k < 6 → FW h0 h o3 F A3 → kpO o o3 → PE s o3 A3 → o3 5 = (p' : Int) → p' ≤ z.n → skp z.T z.n p' = p → am_w X (d + 5) 154 (53, [.ref 164, .int (iI k), .int (iI 1), x], [], h) (raQ h0 z (pall z.T z.n (G + 1) s en k p)) := by
      intro h o3 p' ne k6 w kO P e5 hp' ep
      have cO := w.cO
      have cA := w.arr (p := 173) (n := 14) (by decide) (by decide)
      have e13 := P.1
      have et : (7 + (k : Int)).toNat = 7 + k := by omega
      rw [pall, if_neg ne, if_neg (by omega)]
      refine wr_aload_n rfl rfl rfl ?_
      refine wr_get (ci := 12) (f := 11) rfl rfl rfl (by assumption) rfl ?_
      refine wr_bipush rfl rfl (by decide) ?_
      refine wr_iload_n rfl rfl rfl ?_
      refine wr_iadd rfl rfl ?_
      refine wr_aload_n rfl rfl rfl ?_
      refine wr_get (ci := 12) (f := 13) rfl rfl rfl (by assumption) rfl ?_
      rw [e13]
      refine wr_iast rfl rfl (by assumption) (by omega) (by omega) (fun h1 e1 => ?_)
      rw [et] at e1
      have w := e1 ▸ (w.setA (p := 173) (n := 14) (by decide) (by decide) (updI (A3 173) (7 + k) ((s.od : Int)))).2
      clear e1
      obtain ⟨A4, w, sA, nA⟩ := fa_ex w
      have cO := w.cO
      have kA4 := kA.tr (kpR.be sA nA)
      have t4 : RT z.T z.n o3 A4 := r.t.keep (kO 4 (by decide) (by decide) (by decide) (by decide) (by decide)) (kA4.1 168 (by decide) (by decide) (by decide) (by decide) (by decide) (by decide))
      have pe : pexp z.T z.n 123 p' = pexp z.T z.n 123 p := by unfold pexp; rw [ep, idp]
      refine wr_aload_n rfl rfl rfl ?_
      refine wr_bipush rfl rfl (by decide) ?_
      refine wr_cv1 (k' := 156) (ci := 12) rfl rfl rfl rfl (by assumption) rfl rfl (rr_eat S w t4 e5 hp' (show (1 : Int) ≤ 123 ∧ (123 : Int) ≤ 126 by decide)) (fun r h2 q => ?_)
      rw [pe] at q
      obtain ⟨o4, w, m4, ⟨q', hP, rfl, s5⟩ | ⟨q', hP, rfl, s6⟩⟩ := q
      · have bq := pexp_ok kb (by decide) hP
        have kO4 : kpO o o4 := kO.tr (fun j a b _ _ _ => m4 j a b)
        have t5 : RT z.T z.n o4 A4 := t4.keep (m4 4 (by decide) (by decide)) rfl
        have P4 : PE s o4 A4 := ⟨by rw [m4 13 (by decide) (by decide), e13], fun j hj => by rw [nA 169 (by decide), nA 170 (by decide), nA 171 (by decide), nA 172 (by decide)]; exact P.2 j hj⟩
        rw [hP]
        have cO := w.cO
        refine wr_if_eq rfl rfl rfl (by omega) (fun c72 => by exfalso; omega) (fun c72 => ?_)
        refine wr_aload_n rfl rfl rfl ?_
        refine wr_cv0 (k' := 157) (ci := 12) rfl rfl rfl rfl (by assumption) rfl rfl (rr_tmpl S w t5 s5 bq.2 P4 (by have := o120 k6; omega)) (fun r h2 q => ?_)
        obtain ⟨o5, A5, w, n5, m5, ⟨s', q2, p2, hP2, hp2, ep2, rfl, s5', P5⟩ | ⟨q2, hP2, rfl, s6⟩⟩ := q
        · have hP2' : ptmpl z.T z.n 500 ((PT.mk s.kd s.fi s.se s.ta s.od (0) s.wt (0)) : PT) q' = .ok (s', q2) := hP2
          have ok := ptmpl_ok 500 (InvT.start s) bq.2 hP2'
          have g' := g.next k6 bq.2 hP2'
          have eq : (match (Except.ok ((), q') : PR Unit) with
            | .error q => (.error q : PR (PT × (Nat → Int) × Nat))
            | .ok (_, q) => match ptmpl z.T z.n 500 ((PT.mk s.kd s.fi s.se s.ta s.od (0) s.wt (0)) : PT) q with
              | .error r => .error r
              | .ok (s', r) => pall z.T z.n G s' (updI en k s'.od) (k + 1) (skp z.T z.n r)) = pall z.T z.n G s' (updI en k s'.od) (k + 1) (skp z.T z.n q2) := by
            dsimp only
            rw [hP2']
          have cO := w.cO
          refine wr_if_eq rfl rfl rfl (by omega) (fun c79 => by exfalso; omega) (fun c79 => ?_)
          refine wr_iconst rfl rfl ?_
          refine wr_goto rfl rfl ?_
          refine wr_istore_n (ls' := [_, _, _, _]) rfl rfl (Nat.le_of_ble_eq_true rfl) rfl ?_
          refine wr_iinc (ls' := [_, _, _, _]) rfl rfl rfl rfl ?_
          refine wr_goto rfl rfl ?_
          refine am_w.mono ?_ (fun r h' k => (congrArg (fun P => raQ h0 z P r h') eq).mpr k)
          have := ih (k + 1) s' (updI en k s'.od) (skp z.T z.n q2) p2 o5 A5 _ x (by omega) (by omega) w (kO4.tr n5) (kA4.tr m5.R) ⟨P5.1.1, fun j hj => ⟨P5.2.2.1 j hj, P5.2.2.2.1 j hj (fun i hi => by rw [ok.2.1] at hi; omega)⟩⟩ g' (fun i hi => ?_) s5' hp2 ep2
          · exact this
          · rw [m5.1 173 (by decide) (by decide) (by decide) (by decide) (by decide), sA, stOf_le (by omega)]
            by_cases qk : i = k
            · subst qk; rw [updI_s, se]
            · rw [updI_n (by omega)]; exact B i (by omega)
        · have eq : (match (Except.ok ((), q') : PR Unit) with
            | .error q => (.error q : PR (PT × (Nat → Int) × Nat))
            | .ok (_, q) => match ptmpl z.T z.n 500 ((PT.mk s.kd s.fi s.se s.ta s.od (0) s.wt (0)) : PT) q with
              | .error r => .error r
              | .ok (s', r) => pall z.T z.n G s' (updI en k s'.od) (k + 1) (skp z.T z.n r)) = .error q2 := by
            dsimp only
            rw [hP2]
          have cO := w.cO
          refine wr_if_eq rfl rfl rfl (by omega) (fun c79 => ?_) (fun c79 => by exfalso; omega)
          refine wr_iconst rfl rfl ?_
          refine wr_istore_n (ls' := [_, _, _, _]) rfl rfl (Nat.le_of_ble_eq_true rfl) rfl ?_
          refine wr_iinc (ls' := [_, _, _, _]) rfl rfl rfl rfl ?_
          refine wr_goto rfl rfl ?_
          refine wr_iload_n rfl rfl rfl ?_
          refine wr_if_eq rfl rfl rfl (by omega) (fun c20 => ?_) (fun c20 => by exfalso; omega)
          refine am_w.mono (rr_readE V r w (kO4.tr n5) (kA4.tr m5.R) s6) (fun r h' k => (congrArg (fun P => raQ h0 z P r h') eq).mpr k)
      ·
        rw [hP]
        have cO := w.cO
        refine wr_if_eq rfl rfl rfl (by omega) (fun c72 => ?_) (fun c72 => by exfalso; omega)
        refine wr_iconst rfl rfl ?_
        refine wr_istore_n (ls' := [_, _, _, _]) rfl rfl (Nat.le_of_ble_eq_true rfl) rfl ?_
        refine wr_iinc (ls' := [_, _, _, _]) rfl rfl rfl rfl ?_
        refine wr_goto rfl rfl ?_
        refine wr_iload_n rfl rfl rfl ?_
        refine wr_if_eq rfl rfl rfl (by omega) (fun c20 => ?_) (fun c20 => by exfalso; omega)
        exact rr_readE V r w (kO.tr (fun j a b _ _ _ => m4 j a b)) kA4 s6
    by_cases k0 : k = 0
    ·
      subst k0
      refine wr_iload_n rfl rfl rfl ?_
      refine wr_if_eq rfl rfl rfl (by omega) (fun c20 => by exfalso; omega) (fun c20 => ?_)
      refine wr_iload_n rfl rfl rfl ?_
      refine wr_if_eq rfl rfl rfl (by omega) (fun c24 => ?_) (fun c24 => by exfalso; omega)
      refine wr_iload_n rfl rfl rfl ?_
      refine wr_bipush rfl rfl (by decide) ?_
      refine wr_icmp_ne rfl rfl rfl (by omega) (by omega) (fun c37 => ?_) (fun c37 => by exfalso; omega)
      exact K h o3 p' (by omega) (by omega) w kO P e5 hp' ep
    ·
      refine wr_iload_n rfl rfl rfl ?_
      refine wr_if_eq rfl rfl rfl (by omega) (fun c20 => by exfalso; omega) (fun c20 => ?_)
      refine wr_iload_n rfl rfl rfl ?_
      refine wr_if_eq rfl rfl rfl (by omega) (fun c24 => by exfalso; omega) (fun c24 => ?_)
      refine wr_aload_n rfl rfl rfl ?_
      refine wr_cv0 (k' := 155) (ci := 12) rfl rfl rfl rfl (by assumption) rfl rfl (rr_nextC S w t3 e5 hp') (fun r h2 q => ?_)
      obtain ⟨rfl, o4, w, s4, m4⟩ := q
      rw [ep] at s4 ⊢
      have cO := w.cO
      have kO4 : kpO o o4 := kO.tr (fun j a _ _ _ _ => m4 j a)
      have P4 : PE s o4 A3 := ⟨(m4 13 (by decide)).trans P.1, P.2⟩
      by_cases en0 : z.n ≤ p
      ·
        have z0 : sgA z.T z.n 0 p = 0 := sgA_out (by omega)
        rw [pall, if_pos ⟨en0, by omega⟩]
        refine wr_if_eq rfl rfl rfl (by omega) (fun c31 => ?_) (fun c31 => by exfalso; omega)
        exact rr_readO V r w kO4 kA P4 g B
      · have sp := sb.2.2.2 (by omega)
        by_cases k6 : k = 6
        ·
          rw [pall, if_neg (by omega), if_pos (by omega)]
          refine wr_if_eq rfl rfl rfl (by omega) (fun c31 => by exfalso; omega) (fun c31 => ?_)
          refine wr_iload_n rfl rfl rfl ?_
          refine wr_bipush rfl rfl (by decide) ?_
          refine wr_icmp_ne rfl rfl rfl (by omega) (by omega) (fun c37 => by exfalso; omega) (fun c37 => ?_)
          refine wr_aload_n rfl rfl rfl ?_
          refine wr_aload_n rfl rfl rfl ?_
          refine wr_get (ci := 12) (f := 5) rfl rfl rfl (by assumption) rfl ?_
          rw [s4]
          refine wr_putI (ci := 12) (f := 6) (fs' := [_, _, _, _, _, _, _, _, _, _, _, _, _, _, _, _, _, _, _, _, _, _, _, _, _, _, _, _, _, _, _, _, _, _, _, _, _, _, _]) rfl rfl rfl (by assumption) rfl rfl rfl (fun h1 e1 => ?_)
          have w : FW h0 h1 (updI o4 6 (p)) F A3 := by rw [e1]; exact w.setO (updI o4 6 (p))
          clear e1
          obtain ⟨o5, w, s5, n5⟩ := fo_ex w
          have cO := w.cO
          refine wr_iconst rfl rfl ?_
          refine wr_istore_n (ls' := [_, _, _, _]) rfl rfl (Nat.le_of_ble_eq_true rfl) rfl ?_
          refine wr_goto rfl rfl ?_
          refine wr_iload_n rfl rfl rfl ?_
          refine wr_if_eq rfl rfl rfl (by omega) (fun c20 => ?_) (fun c20 => by exfalso; omega)
          exact rr_readE V r w (kO4.tr (fun j _ b _ _ _ => n5 j b)) kA s5
        ·
          refine wr_if_eq rfl rfl rfl (by omega) (fun c31 => by exfalso; omega) (fun c31 => ?_)
          refine wr_iload_n rfl rfl rfl ?_
          refine wr_bipush rfl rfl (by decide) ?_
          refine wr_icmp_ne rfl rfl rfl (by omega) (by omega) (fun c37 => ?_) (fun c37 => by exfalso; omega)
          exact K _ o4 p (by omega) (by omega) w kO4 P4 s4 kb idp
theorem rr_read {d : Nat} {s0 : PT} {en0 : Nat → Int} (C : RR h z) (V : VS z) : am_c X (d + 6) 154 [.ref 164] h (raQ h z (pall z.T z.n 500 (PT.mk s0.kd s0.fi s0.se s0.ta (0) s0.st s0.wt s0.op) en0 0 (skp z.T z.n 0))) := by
  obtain ⟨o, F, A, w, r⟩ := C
  have main : ∀ h0, FW h0 h o F A → am_c X (d + 6) 154 [.ref 164] h (raQ h0 z (pall z.T z.n 500 (PT.mk s0.kd s0.fi s0.se s0.ta (0) s0.st s0.wt s0.op) en0 0 (skp z.T z.n 0))) := by
    intro h0 w
    have cO := w.cO
    refine am_c.of (Nat.le_of_ble_eq_true rfl) ?_
    show am_w _ _ _ (_, [_, _, _, _], _, _) _
    refine wr_aload_n rfl rfl rfl ?_
    refine wr_iconst rfl rfl ?_
    refine wr_putI (ci := 12) (f := 5) (fs' := [_, _, _, _, _, _, _, _, _, _, _, _, _, _, _, _, _, _, _, _, _, _, _, _, _, _, _, _, _, _, _, _, _, _, _, _, _, _, _]) rfl rfl rfl (by assumption) rfl rfl rfl (fun h1 e1 => ?_)
    have w : FW h0 h1 (updI o 5 (0)) F A := by rw [e1]; exact w.setO (updI o 5 (0))
    clear e1
    obtain ⟨o2, w, s2, n2⟩ := fo_ex w
    have cO := w.cO
    refine wr_aload_n rfl rfl rfl ?_
    refine wr_iconst rfl rfl ?_
    refine wr_putI (ci := 12) (f := 6) (fs' := [_, _, _, _, _, _, _, _, _, _, _, _, _, _, _, _, _, _, _, _, _, _, _, _, _, _, _, _, _, _, _, _, _, _, _, _, _, _, _]) rfl rfl rfl (by assumption) rfl rfl rfl (fun h1 e1 => ?_)
    have w : FW h0 h1 (updI o2 6 (-1)) F A := by rw [e1]; exact w.setO (updI o2 6 (-1))
    clear e1
    obtain ⟨o3, w, s3, n3⟩ := fo_ex w
    have cO := w.cO
    refine wr_aload_n rfl rfl rfl ?_
    refine wr_iconst rfl rfl ?_
    refine wr_putI (ci := 12) (f := 13) (fs' := [_, _, _, _, _, _, _, _, _, _, _, _, _, _, _, _, _, _, _, _, _, _, _, _, _, _, _, _, _, _, _, _, _, _, _, _, _, _, _]) rfl rfl rfl (by assumption) rfl rfl rfl (fun h1 e1 => ?_)
    have w : FW h0 h1 (updI o3 13 (0)) F A := by rw [e1]; exact w.setO (updI o3 13 (0))
    clear e1
    obtain ⟨o4, w, s4, n4⟩ := fo_ex w
    have cO := w.cO
    refine wr_iconst rfl rfl ?_
    refine wr_istore_n (ls' := [_, _, _, _]) rfl rfl (Nat.le_of_ble_eq_true rfl) rfl ?_
    refine wr_iconst rfl rfl ?_
    refine wr_istore_n (ls' := [_, _, _, _]) rfl rfl (Nat.le_of_ble_eq_true rfl) rfl ?_
    refine rr_readL V r 500 0 (PT.mk s0.kd s0.fi s0.se s0.ta (0) s0.st s0.wt s0.op) en0 _ 0 o4 A _ am_U (by omega) (by omega) w (fun j a b c _ _ => by rw [n4 j c, n3 j b, n2 j a]) kpA.rf.R ⟨s4, fun j hj => absurd hj (Nat.not_lt_zero _)⟩ ⟨by omega, Or.inl rfl, fun _ => rfl, fun t h => absurd h (Nat.not_lt_zero _), fun t h => absurd h (Nat.not_lt_zero _), fun j h => absurd h (Nat.not_lt_zero _), fun t j h => absurd h (Nat.not_lt_zero _)⟩ (fun i h => absurd h (Nat.not_lt_zero _)) (by rw [n4 5 (by decide), n3 5 (by decide), s2]; rfl) (Nat.zero_le _) rfl
  exact main h w
end RRI
