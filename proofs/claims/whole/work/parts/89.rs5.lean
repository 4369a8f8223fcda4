/-! THE REFERENCE WALKS: a side from its begin, and its turn -/
section RSF
variable {X : Nat × (Nat → Int32)} {h0 h h' : am_H} {o o' o'' : Nat → Int} {A A' A'' B : Nat → Nat → Int} {F F' F'' G : Nat → Rat} {n ax : Nat} {off lev : Nat → Int} {sg : Int}
theorem rr_walk {d ax t st c0 : Nat} {kd fi se ta tk : Nat → Int} {bank al : Int} {en : Int} {q : Sq} {eo el : Rat} (W : FW h0 h o F A) (g : RG n off lev o A) (ok : okG n off lev) (hs : sg = 1 ∨ sg = -1) (hb : -150 ≤ bank ∧ bank ≤ 150) (hal : -100000 ≤ al ∧ al ≤ 100000) (row : ∀ k : Nat, (k : Int) < en → rowOK kd fi se k) (tar : ∀ k : Nat, st ≤ k → (k : Int) < en → 6 ≤ kd k → (k : Int) < ta k ∧ ta k ≤ en) (hc : cntR kd st (en.toNat - st) ≤ 12) (hen : en ≤ 144) (hst : (st : Int) ≤ en ∧ en ≤ st + 24) (hax : ax ≤ 12) (hc0 : c0 ≤ 12) (ht : t ≤ 5) (e20 : o 20 = al) (e21 : o 21 = bank) (e25 : o 25 = (ax : Int)) (e27 : o 27 = (c0 : Int)) (a180 : ∀ k, k < c0 → A 180 k = tk k) (eb0 : A 173 t = (st : Int)) (eb : A 173 (t + 1) = en) (re : ∀ j : Nat, (j : Int) < en → rowE (A 169 j) (A 170 j) (A 171 j) (A 172 j) (kd j) (fi j) (se j) (ta j)) : am_c X (d + 8) 170 [.ref 164, .int (iI t), .int (iI sg)] h (wkQ h0 o F A ax sg (wLoop kd fi se ta n off lev sg bank en 24 (WS.mk (q.begin (al * 1000)) eo el c0 tk) st)) := by
  have w := W
  have cO := w.cO
  refine am_c.of (Nat.le_of_ble_eq_true rfl) ?_
  show am_w _ _ _ (_, [_, _, _, _, _, _], _, _) _
  refine wr_aload_n rfl rfl rfl ?_
  refine wr_iload_n rfl rfl rfl ?_
  refine wr_putI (ci := 12) (f := 29) (fs' := [_, _, _, _, _, _, _, _, _, _, _, _, _, _, _, _, _, _, _, _, _, _, _, _, _, _, _, _, _, _, _, _, _, _, _, _, _, _, _]) rfl rfl rfl (by assumption) rfl rfl rfl (fun h1 e1 => ?_)
  have w : FW h0 h1 (updI o 29 (sg)) F A := by rw [e1]; exact w.setO (updI o 29 (sg))
  clear e1
  obtain ⟨o2, w, s2, n2⟩ := fo_ex w
  have cO := w.cO
  refine wr_aload_n rfl rfl rfl ?_
  refine wr_lconst (z := 0) rfl rfl rfl ?_
  refine wr_putL (ci := 12) (f := 30) (fs' := [_, _, _, _, _, _, _, _, _, _, _, _, _, _, _, _, _, _, _, _, _, _, _, _, _, _, _, _, _, _, _, _, _, _, _, _, _, _, _]) rfl rfl rfl (by assumption) rfl rfl rfl (fun h1 e1 => ?_)
  have w : FW h0 h1 (updI o2 30 (0)) F A := by rw [e1]; exact w.setO (updI o2 30 (0))
  clear e1
  obtain ⟨o3, w, s3, n3⟩ := fo_ex w
  have cO := w.cO
  have f20 : o3 20 = al := by rw [n3 20 (by decide), n2 20 (by decide), e20]
  refine wr_aload_n rfl rfl rfl ?_
  refine wr_ldc2 (z := 1000) rfl rfl rfl (by decide) ?_
  refine wr_aload_n rfl rfl rfl ?_
  refine wr_get (ci := 12) (f := 20) rfl rfl rfl (by assumption) rfl ?_
  rw [f20]
  refine wr_i2l rfl rfl (by omega) ?_
  refine wr_lmul rfl rfl ?_
  refine wr_putL (ci := 12) (f := 31) (fs' := [_, _, _, _, _, _, _, _, _, _, _, _, _, _, _, _, _, _, _, _, _, _, _, _, _, _, _, _, _, _, _, _, _, _, _, _, _, _, _]) rfl rfl rfl (by assumption) rfl rfl rfl (fun h1 e1 => ?_)
  have w : FW h0 h1 (updI o3 31 (1000*al)) F A := by rw [e1]; exact w.setO (updI o3 31 (1000*al))
  clear e1
  obtain ⟨o4, w, s4, n4⟩ := fo_ex w
  have cO := w.cO
  refine wr_aload_n rfl rfl rfl ?_
  refine wr_iconst rfl rfl ?_
  refine wr_putI (ci := 12) (f := 32) (fs' := [_, _, _, _, _, _, _, _, _, _, _, _, _, _, _, _, _, _, _, _, _, _, _, _, _, _, _, _, _, _, _, _, _, _, _, _, _, _, _]) rfl rfl rfl (by assumption) rfl rfl rfl (fun h1 e1 => ?_)
  have w : FW h0 h1 (updI o4 32 (0)) F A := by rw [e1]; exact w.setO (updI o4 32 (0))
  clear e1
  obtain ⟨o5, w, s5, n5⟩ := fo_ex w
  have cO := w.cO
  refine wr_aload_n rfl rfl rfl ?_
  refine wr_iconst rfl rfl ?_
  refine wr_putZ (ci := 12) (f := 33) (fs' := [_, _, _, _, _, _, _, _, _, _, _, _, _, _, _, _, _, _, _, _, _, _, _, _, _, _, _, _, _, _, _, _, _, _, _, _, _, _, _]) rfl rfl rfl (by assumption) rfl rfl (by decide) rfl (fun h1 e1 => ?_)
  have w : FW h0 h1 (updI o5 33 (0)) F A := by rw [e1]; exact w.setO (updI o5 33 (0))
  clear e1
  obtain ⟨o6, w, s6, n6⟩ := fo_ex w
  have cO := w.cO
  have c73 := w.arr (p := 173) (n := 14) (by decide) (by decide)
  refine wr_aload_n rfl rfl rfl ?_
  refine wr_get (ci := 12) (f := 11) rfl rfl rfl (by assumption) rfl ?_
  refine wr_iload_n rfl rfl rfl ?_
  refine wr_iald rfl rfl (by assumption) (by omega) (by omega) ?_
  rw [Int.toNat_natCast, eb0]
  refine wr_istore_n (ls' := [_, _, _, _, _, _]) rfl rfl (Nat.le_of_ble_eq_true rfl) rfl ?_
  have kk : ∀ j, (j < 29 ∨ 33 < j) → o6 j = o j := fun j x => by rw [n6 j (by omega), n5 j (by omega), n4 j (by omega), n3 j (by omega), n2 j (by omega)]
  have ob : okB (q.begin (al * 1000)) := (begin_sd (n := n) (off := off) (lev := lev) (sg := sg) (eo := eo) (el := el) (by omega)).ok
  refine (rr_walkL (d := d) (st := st) (c0 := c0) ok hs hb row tar hc hen hax hc0 ht 24 (WS.mk (q.begin (al * 1000)) eo el c0 tk) st o6 F A _ am_U am_U (by omega) hst.1 ⟨ob, Nat.le_refl _, Nat.le_refl _, by show 0 + (c0 - c0) ≤ _; omega⟩ w (g.keep (kk 19 (by decide)) ⟨rfl, rfl⟩) (by rw [kk 21 (by decide), e21]) eb re ⟨⟨⟨by rw [kk 25 (by decide), e25], ?_⟩, ⟨?_, ?_⟩, ?_, ?_⟩, ⟨by rw [kk 27 (by decide), e27], a180⟩, fun i h1 h2 => ?_⟩).mono (fun r h' k => k.of ⟨fun j _ y => kk j (by omega), fun _ _ _ _ => rfl, fun _ _ => rfl, fun _ _ => rfl⟩ rfl)
  · rw [n6 29 (by decide), n5 29 (by decide), n4 29 (by decide), n3 29 (by decide), s2]
  · show o6 30 = updI q.ou 0 0 0
    rw [n6 30 (by decide), n5 30 (by decide), n4 30 (by decide), s3, updI_s]
  · show o6 31 = updI q.hi 0 (al * 1000) 0
    rw [n6 31 (by decide), n5 31 (by decide), s4, updI_s, Int.mul_comm]
  · show o6 32 = ((0 : Nat) : Int)
    rw [n6 32 (by decide), s5]
    rfl
  · exact s6
  · have h2 : i ≤ 0 := h2
    omega
/-- x < i or behind N - i: turned -/
def tnA (N i : Nat) (a b : Nat → Int) : Prop := ∀ x, x ≤ N → a x = if x < i ∨ N < x + i then b (N - x) else b x
def tnF (N i p : Nat) (a b : Nat → Rat) : Prop := ∀ x, x ≤ N → a (p + x) = if x < i ∨ N < x + i then b (p + (N - x)) else b (p + x)
theorem tnA.up {N i : Nat} {a b c : Nat → Int} (h : tnA N i a b) (hi : i + i < N) (e1 : c i = a (N - i)) (e2 : c (N - i) = a i) (en : ∀ x, x ≠ i → x ≠ N - i → c x = a x) : tnA N (i + 1) c b := by
  intro x hx
  by_cases q1 : x = i
  · subst q1
    rw [e1, h _ (by omega), if_neg (by omega), if_pos (by omega)]
  by_cases q2 : x = N - i
  · subst q2
    rw [e2, h _ (by omega), if_neg (by omega), if_pos (by omega), show N - (N - i) = i by omega]
  rw [en x q1 q2, h x hx]
  by_cases q3 : x < i ∨ N < x + i
  · rw [if_pos q3, if_pos (by omega)]
  · rw [if_neg q3, if_neg (by omega)]
theorem tnF.up {N i p : Nat} {a b c : Nat → Rat} (h : tnF N i p a b) (hi : i + i < N) (e1 : c (p + i) = a (p + (N - i))) (e2 : c (p + (N - i)) = a (p + i)) (en : ∀ x, x ≤ N → x ≠ i → x ≠ N - i → c (p + x) = a (p + x)) : tnF N (i + 1) p c b := by
  intro x hx
  by_cases q1 : x = i
  · subst q1
    rw [e1, h _ (by omega), if_neg (by omega), if_pos (by omega)]
  by_cases q2 : x = N - i
  · subst q2
    rw [e2, h _ (by omega), if_neg (by omega), if_pos (by omega), show N - (N - i) = i by omega]
  rw [en x hx q1 q2, h x hx]
  by_cases q3 : x < i ∨ N < x + i
  · rw [if_pos q3, if_pos (by omega)]
  · rw [if_neg q3, if_neg (by omega)]
theorem rr_turn {d N : Nat} (W : FW h0 h o G B) (e32 : o 32 = (N : Int)) (hN : N ≤ 12) : am_c X (d + 3) 183 [.ref 164] h (fun r h' => r = none ∧ ∃ F' A', FW h0 h' o F' A' ∧ (∀ x, x ≤ N → A' 178 x = B 178 (N - x) ∧ F' x = G (N - x) ∧ F' (26 + x) = G (26 + (N - x))) ∧ (∀ j, j ≠ 178 → A' j = B j) ∧ ∀ f, ((N < f ∧ f < 26) ∨ 26 + N < f) → f ≠ 94 → F' f = G f) := by
  have L : ∀ (m i : Nat) (F : Nat → Rat) (A : Nat → Nat → Int) (h : am_H) (x : Value), i + i + m + m = N ∨ i + i + m + m = N + 1 → FW h0 h o F A → tnA N i (A 178) (B 178) → tnF N i 0 F G → tnF N i 26 F G → (∀ j, j ≠ 178 → A j = B j) → (∀ f, ((N < f ∧ f < 26) ∨ 26 + N < f) → f ≠ 94 → F f = G f) → am_w X (d + 2) 183 (7, [.ref 164, .int (iI i), .int (iI ((N - i : Nat) : Int)), x], [], h) (fun r h' => r = none ∧ ∃ F' A', FW h0 h' o F' A' ∧ (∀ x, x ≤ N → A' 178 x = B 178 (N - x) ∧ F' x = G (N - x) ∧ F' (26 + x) = G (26 + (N - x))) ∧ (∀ j, j ≠ 178 → A' j = B j) ∧ ∀ f, ((N < f ∧ f < 26) ∨ 26 + N < f) → f ≠ 94 → F' f = G f) := by
    intro m
    induction m with
    | zero =>
      intro i F A h x hm w t1 t2 t3 ka kf
      have cO := w.cO
      refine wr_iload_n rfl rfl rfl ?_
      refine wr_iload_n rfl rfl rfl ?_
      refine wr_icmp_ge rfl rfl rfl (by omega) (by omega) (fun c9 => ?_) (fun c9 => by exfalso; omega)
      refine wr_vret rfl rfl ?_
      refine ⟨rfl, F, A, w, fun x hx => ?_, ka, kf⟩
      have u1 := t1 x hx
      have u2 := t2 x hx
      have u3 := t3 x hx
      rw [Nat.zero_add, Nat.zero_add] at u2
      by_cases q : x < i ∨ N < x + i
      · rw [if_pos q] at u1 u2 u3
        exact ⟨u1, u2, u3⟩
      · rw [if_neg q] at u1 u2 u3
        have : N - x = x := by omega
        rw [this]
        exact ⟨u1, u2, u3⟩
    | succ m ih =>
      intro i F A h x hm w t1 t2 t3 ka kf
      have cO := w.cO
      have cA := w.arr (p := 178) (n := 26) (by decide) (by decide)
      obtain ⟨j, hj⟩ : ∃ j, j = N - i := ⟨_, rfl⟩
      rw [← hj]
      have ei0 : (0 : Int) + (i : Int) = (i : Int) := by omega
      have ej0 : (0 : Int) + (j : Int) = (j : Int) := by omega
      have ei2 : (26 : Int) + (i : Int) = ((26 + i : Nat) : Int) := by omega
      have ej2 : (26 : Int) + (j : Int) = ((26 + j : Nat) : Int) := by omega
      by_cases lt : i < j
      ·
        refine wr_iload_n rfl rfl rfl ?_
        refine wr_iload_n rfl rfl rfl ?_
        refine wr_icmp_ge rfl rfl rfl (by omega) (by omega) (fun c9 => by exfalso; omega) (fun c9 => ?_)
        refine wr_aload_n rfl rfl rfl ?_
        refine wr_get (ci := 12) (f := 24) rfl rfl rfl (by assumption) rfl ?_
        refine wr_iload_n rfl rfl rfl ?_
        refine wr_iald rfl rfl (by assumption) (by omega) (by omega) ?_
        rw [Int.toNat_natCast]
        refine wr_istore_n (ls' := [_, _, _, _]) rfl rfl (Nat.le_of_ble_eq_true rfl) rfl ?_
        refine wr_aload_n rfl rfl rfl ?_
        refine wr_get (ci := 12) (f := 24) rfl rfl rfl (by assumption) rfl ?_
        refine wr_iload_n rfl rfl rfl ?_
        refine wr_aload_n rfl rfl rfl ?_
        refine wr_get (ci := 12) (f := 24) rfl rfl rfl (by assumption) rfl ?_
        refine wr_iload_n rfl rfl rfl ?_
        refine wr_iald rfl rfl (by assumption) (by omega) (by omega) ?_
        rw [Int.toNat_natCast]
        refine wr_iast rfl rfl (by assumption) (by omega) (by omega) (fun h1 e1 => ?_)
        rw [Int.toNat_natCast] at e1
        have w := e1 ▸ (w.setA (p := 178) (n := 26) (by decide) (by decide) (updI (A 178) (i) (A 178 j))).2
        clear e1
        obtain ⟨A2, w, sA, nA⟩ := fa_ex w
        have cO := w.cO
        have cA := w.arr (p := 178) (n := 26) (by decide) (by decide)
        refine wr_aload_n rfl rfl rfl ?_
        refine wr_get (ci := 12) (f := 24) rfl rfl rfl (by assumption) rfl ?_
        refine wr_iload_n rfl rfl rfl ?_
        refine wr_iload_n rfl rfl rfl ?_
        refine wr_iast rfl rfl (by assumption) (by omega) (by omega) (fun h1 e1 => ?_)
        rw [Int.toNat_natCast] at e1
        have w := e1 ▸ (w.setA (p := 178) (n := 26) (by decide) (by decide) (updI (A2 178) (j) (A 178 i))).2
        clear e1
        obtain ⟨A3, w, sB, nB⟩ := fa_ex w
        have cO := w.cO
        refine wr_aload_n rfl rfl rfl ?_
        refine wr_bipush rfl rfl (by decide) ?_
        refine wr_iconst rfl rfl ?_
        refine wr_iload_n rfl rfl rfl ?_
        refine wr_iadd rfl rfl ?_
        rw [ei0]
        refine wr_cv2 (k' := 184) (ci := 12) rfl rfl rfl rfl (by assumption) rfl rfl (fw_copy (f := 94) (g := i) w (by decide) (by omega) (by omega)) (fun r h2 q => ?_)
        obtain ⟨rfl, w⟩ := q
        obtain ⟨F2, w, p2, m2⟩ := ff_ex w
        have cO := w.cO
        refine wr_aload_n rfl rfl rfl ?_
        refine wr_iconst rfl rfl ?_
        refine wr_iload_n rfl rfl rfl ?_
        refine wr_iadd rfl rfl ?_
        rw [ei0]
        refine wr_iconst rfl rfl ?_
        refine wr_iload_n rfl rfl rfl ?_
        refine wr_iadd rfl rfl ?_
        rw [ej0]
        refine wr_cv2 (k' := 184) (ci := 12) rfl rfl rfl rfl (by assumption) rfl rfl (fw_copy (f := i) (g := j) w (by omega) (by omega) (by omega)) (fun r h2 q => ?_)
        obtain ⟨rfl, w⟩ := q
        obtain ⟨F3, w, p3, m3⟩ := ff_ex w
        have cO := w.cO
        refine wr_aload_n rfl rfl rfl ?_
        refine wr_iconst rfl rfl ?_
        refine wr_iload_n rfl rfl rfl ?_
        refine wr_iadd rfl rfl ?_
        rw [ej0]
        refine wr_bipush rfl rfl (by decide) ?_
        refine wr_cv2 (k' := 184) (ci := 12) rfl rfl rfl rfl (by assumption) rfl rfl (fw_copy (f := j) (g := 94) w (by omega) (by decide) (by omega)) (fun r h2 q => ?_)
        obtain ⟨rfl, w⟩ := q
        obtain ⟨F4, w, p4, m4⟩ := ff_ex w
        have cO := w.cO
        refine wr_aload_n rfl rfl rfl ?_
        refine wr_bipush rfl rfl (by decide) ?_
        refine wr_bipush rfl rfl (by decide) ?_
        refine wr_iload_n rfl rfl rfl ?_
        refine wr_iadd rfl rfl ?_
        rw [ei2]
        refine wr_cv2 (k' := 184) (ci := 12) rfl rfl rfl rfl (by assumption) rfl rfl (fw_copy (f := 94) (g := 26 + i) w (by decide) (by omega) (by omega)) (fun r h2 q => ?_)
        obtain ⟨rfl, w⟩ := q
        obtain ⟨F5, w, p5, m5⟩ := ff_ex w
        have cO := w.cO
        refine wr_aload_n rfl rfl rfl ?_
        refine wr_bipush rfl rfl (by decide) ?_
        refine wr_iload_n rfl rfl rfl ?_
        refine wr_iadd rfl rfl ?_
        rw [ei2]
        refine wr_bipush rfl rfl (by decide) ?_
        refine wr_iload_n rfl rfl rfl ?_
        refine wr_iadd rfl rfl ?_
        rw [ej2]
        refine wr_cv2 (k' := 184) (ci := 12) rfl rfl rfl rfl (by assumption) rfl rfl (fw_copy (f := 26 + i) (g := 26 + j) w (by omega) (by omega) (by omega)) (fun r h2 q => ?_)
        obtain ⟨rfl, w⟩ := q
        obtain ⟨F6, w, p6, m6⟩ := ff_ex w
        have cO := w.cO
        refine wr_aload_n rfl rfl rfl ?_
        refine wr_bipush rfl rfl (by decide) ?_
        refine wr_iload_n rfl rfl rfl ?_
        refine wr_iadd rfl rfl ?_
        rw [ej2]
        refine wr_bipush rfl rfl (by decide) ?_
        refine wr_cv2 (k' := 184) (ci := 12) rfl rfl rfl rfl (by assumption) rfl rfl (fw_copy (f := 26 + j) (g := 94) w (by omega) (by decide) (by omega)) (fun r h2 q => ?_)
        obtain ⟨rfl, w⟩ := q
        obtain ⟨F7, w, p7, m7⟩ := ff_ex w
        have cO := w.cO
        refine wr_iinc (ls' := [_, _, _, _]) rfl rfl rfl rfl ?_
        refine wr_iinc (ls' := [_, _, _, _]) rfl rfl rfl rfl ?_
        refine wr_goto rfl rfl ?_
        rw [show (j : Int) + -1 = ((N - (i + 1) : Nat) : Int) by omega]
        refine ih (i + 1) F7 A3 _ _ (by omega) w (t1.up (by omega) ?_ ?_ (fun x a b => ?_)) (t2.up (by omega) ?_ ?_ (fun x c a b => ?_)) (t3.up (by omega) ?_ ?_ (fun x c a b => ?_)) (fun k hk => by rw [nB k hk, nA k hk, ka k hk]) (fun f a b => ?_)
        · rw [sB, updI_n (by omega), sA, updI_s, hj]
        · rw [sB, ← hj, updI_s]
        · rw [sB, updI_n (by omega), sA, updI_n a]
        · rw [Nat.zero_add, Nat.zero_add, ← hj, m7 i (by omega), m6 i (by omega), m5 i (by omega), m4 i (by omega), p3, m2 j (by omega)]
        · rw [Nat.zero_add, Nat.zero_add, ← hj, m7 j (by omega), m6 j (by omega), m5 j (by omega), p4, m3 94 (by omega), p2]
        · rw [Nat.zero_add, m7 x (by omega), m6 x (by omega), m5 x (by omega), m4 x (by omega), m3 x (by omega), m2 x (by omega)]
        · rw [← hj, m7 (26 + i) (by omega), p6, m5 (26 + j) (by omega), m4 (26 + j) (by omega), m3 (26 + j) (by omega), m2 (26 + j) (by omega)]
        · rw [← hj, p7, m6 94 (by omega), p5, m4 (26 + i) (by omega), m3 (26 + i) (by omega), m2 (26 + i) (by omega)]
        · rw [m7 (26 + x) (by omega), m6 (26 + x) (by omega), m5 (26 + x) (by omega), m4 (26 + x) (by omega), m3 (26 + x) (by omega), m2 (26 + x) (by omega)]
        · rw [m7 f (by omega), m6 f (by omega), m5 f b, m4 f (by omega), m3 f (by omega), m2 f b, kf f a b]
      ·
        refine wr_iload_n rfl rfl rfl ?_
        refine wr_iload_n rfl rfl rfl ?_
        refine wr_icmp_ge rfl rfl rfl (by omega) (by omega) (fun c9 => ?_) (fun c9 => by exfalso; omega)
        refine wr_vret rfl rfl ?_
        refine ⟨rfl, F, A, w, fun x hx => ?_, ka, kf⟩
        have u1 := t1 x hx
        have u2 := t2 x hx
        have u3 := t3 x hx
        rw [Nat.zero_add, Nat.zero_add] at u2
        by_cases q : x < i ∨ N < x + i
        · rw [if_pos q] at u1 u2 u3
          exact ⟨u1, u2, u3⟩
        · omega
  have w := W
  have cO := w.cO
  refine am_c.of (Nat.le_of_ble_eq_true rfl) ?_
  show am_w _ _ _ (_, [_, _, _, _], _, _) _
  refine wr_iconst rfl rfl ?_
  refine wr_istore_n (ls' := [_, _, _, _]) rfl rfl (Nat.le_of_ble_eq_true rfl) rfl ?_
  refine wr_aload_n rfl rfl rfl ?_
  refine wr_get (ci := 12) (f := 32) rfl rfl rfl (by assumption) rfl ?_
  rw [e32]
  refine wr_istore_n (ls' := [_, _, _, _]) rfl rfl (Nat.le_of_ble_eq_true rfl) rfl ?_
  refine L ((N + 1) / 2) 0 G B h am_U (by omega) w (fun x hx => by rw [if_neg (by omega)]) (fun x hx => by rw [if_neg (by omega)]) (fun x hx => by rw [if_neg (by omega)]) (fun _ _ => rfl) (fun _ _ _ => rfl)
end RSF
