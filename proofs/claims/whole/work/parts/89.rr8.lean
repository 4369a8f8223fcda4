/-! THE REFERENCE WALKS: the line of the ground, the gap, corners -/
section RRJ
variable {X : Nat × (Nat → Int32)} {h0 h h' : am_H} {o o' o'' : Nat → Int} {A A' A'' : Nat → Nat → Int} {F F' : Nat → Rat} {n : Nat} {off lev : Nat → Int} {sg out high : Int}
theorem div1Q (a : Int) : Rat.divInt a 1 = (a : Rat) := by
  rw [divQ]
  grind
theorem ff_ex {f : Nat} {v : Rat} (w : FW h0 h o (updR F f v) A) : ∃ F2, FW h0 h o F2 A ∧ F2 f = v ∧ ∀ j, j ≠ f → F2 j = F j := ⟨_, w, updR_s _ _ _, fun _ q => updR_n q⟩
theorem rr_line {d : Nat} {x : Int} (w : FW h0 h o F A) (g : RG n off lev o A) (ok : okG n off lev) (hn : 0 < n) (hx : -9223372036854775808 ≤ x ∧ x ≤ 9223372036854775807) : am_c X (d + 1) 174 [.ref 164, .long (lI x)] h (fun r h' => r = none ∧ ∃ o', FW h0 h' o' F A ∧ (o' 34 = (if gk n off x = 0 then 0 else (gk n off x : Int) - 1) ∧ o' 35 = (if gk n off x = 0 then 0 else if gk n off x = n then (n : Int) - 1 else (gk n off x : Int))) ∧ ∀ j, j ≠ 34 → j ≠ 35 → o' j = o j) := by
  have cO := w.cO
  have n12 := ok.1
  obtain ⟨e19, eG⟩ := g
  have cA := w.arr (p := 175) (n := 12) (by decide) (by decide)
  have ks := gk_spec n off x
  have K : ∀ k : Nat, k = gk n off x → am_w X d 174 (28, [.ref 164, .long (lI x), am_U, .int (iI k)], [], h) (fun r h' => r = none ∧ ∃ o', FW h0 h' o' F A ∧ (o' 34 = (if gk n off x = 0 then 0 else (gk n off x : Int) - 1) ∧ o' 35 = (if gk n off x = 0 then 0 else if gk n off x = n then (n : Int) - 1 else (gk n off x : Int))) ∧ ∀ j, j ≠ 34 → j ≠ 35 → o' j = o j) := by
    intro k hk
    rw [← hk] at ks ⊢
    by_cases k0 : k = 0
    ·
      rw [if_pos k0, if_pos k0]
      refine wr_aload_n rfl rfl rfl ?_
      refine wr_iload_n rfl rfl rfl ?_
      refine wr_if_ne rfl rfl rfl (by omega) (fun c30 => by exfalso; omega) (fun c30 => ?_)
      refine wr_iconst rfl rfl ?_
      refine wr_goto rfl rfl ?_
      refine wr_putI (ci := 12) (f := 34) (fs' := [_, _, _, _, _, _, _, _, _, _, _, _, _, _, _, _, _, _, _, _, _, _, _, _, _, _, _, _, _, _, _, _, _, _, _, _, _, _, _]) rfl rfl rfl (by assumption) rfl rfl rfl (fun h1 e1 => ?_)
      have w : FW h0 h1 (updI o 34 (0)) F A := by rw [e1]; exact w.setO (updI o 34 (0))
      clear e1
      obtain ⟨o2, w, s2, n2⟩ := fo_ex w
      have cO := w.cO
      have f19 : o2 19 = (n : Int) := by rw [n2 19 (by decide), e19]
      refine wr_aload_n rfl rfl rfl ?_
      refine wr_iload_n rfl rfl rfl ?_
      refine wr_aload_n rfl rfl rfl ?_
      refine wr_get (ci := 12) (f := 19) rfl rfl rfl (by assumption) rfl ?_
      rw [f19]
      refine wr_icmp_ne rfl rfl rfl (by omega) (by omega) (fun c49 => ?_) (fun c49 => by exfalso; omega)
      refine wr_iload_n rfl rfl rfl ?_
      refine wr_putI (ci := 12) (f := 35) (fs' := [_, _, _, _, _, _, _, _, _, _, _, _, _, _, _, _, _, _, _, _, _, _, _, _, _, _, _, _, _, _, _, _, _, _, _, _, _, _, _]) rfl rfl rfl (by assumption) rfl rfl rfl (fun h1 e1 => ?_)
      have w : FW h0 h1 (updI o2 35 (k)) F A := by rw [e1]; exact w.setO (updI o2 35 (k))
      clear e1
      obtain ⟨o3, w, s3, n3⟩ := fo_ex w
      have cO := w.cO
      refine wr_aload_n rfl rfl rfl ?_
      refine wr_iload_n rfl rfl rfl ?_
      refine wr_if_ne rfl rfl rfl (by omega) (fun c67 => by exfalso; omega) (fun c67 => ?_)
      refine wr_iconst rfl rfl ?_
      refine wr_goto rfl rfl ?_
      refine wr_putI (ci := 12) (f := 35) (fs' := [_, _, _, _, _, _, _, _, _, _, _, _, _, _, _, _, _, _, _, _, _, _, _, _, _, _, _, _, _, _, _, _, _, _, _, _, _, _, _]) rfl rfl rfl (by assumption) rfl rfl rfl (fun h1 e1 => ?_)
      have w : FW h0 h1 (updI o3 35 (0)) F A := by rw [e1]; exact w.setO (updI o3 35 (0))
      clear e1
      obtain ⟨o4, w, s4, n4⟩ := fo_ex w
      have cO := w.cO
      refine wr_vret rfl rfl ?_
      exact ⟨rfl, o4, w, ⟨by rw [n4 34 (by decide), n3 34 (by decide), s2], s4⟩, fun j a b => by rw [n4 j b, n3 j b, n2 j a]⟩
    · rw [if_neg k0, if_neg k0]
      have J : ∀ (v : Int) (o3 : Nat → Int) (h3 : am_H), v = (if k = n then (n : Int) - 1 else (k : Int)) → FW h0 h3 o3 F A → o3 35 = v → o3 34 = (k : Int) - 1 → (∀ j, j ≠ 34 → j ≠ 35 → o3 j = o j) → am_w X d 174 (65, [.ref 164, .long (lI x), am_U, .int (iI k)], [], h3) (fun r h' => r = none ∧ ∃ o', FW h0 h' o' F A ∧ (o' 34 = (k : Int) - 1 ∧ o' 35 = (if k = n then (n : Int) - 1 else (k : Int))) ∧ ∀ j, j ≠ 34 → j ≠ 35 → o' j = o j) := by
        intro v o3 h3 hv w s3 s2 n3
        have cO := w.cO
        refine wr_aload_n rfl rfl rfl ?_
        refine wr_iload_n rfl rfl rfl ?_
        refine wr_if_ne rfl rfl rfl (by omega) (fun c67 => ?_) (fun c67 => by exfalso; omega)
        refine wr_aload_n rfl rfl rfl ?_
        refine wr_get (ci := 12) (f := 35) rfl rfl rfl (by assumption) rfl ?_
        rw [s3]
        refine wr_putI (ci := 12) (f := 35) (fs' := [_, _, _, _, _, _, _, _, _, _, _, _, _, _, _, _, _, _, _, _, _, _, _, _, _, _, _, _, _, _, _, _, _, _, _, _, _, _, _]) rfl rfl rfl (by assumption) rfl rfl rfl (fun h1 e1 => ?_)
        have w : FW h0 h1 (updI o3 35 (v)) F A := by rw [e1]; exact w.setO (updI o3 35 (v))
        clear e1
        obtain ⟨o4, w, s4, n4⟩ := fo_ex w
        have cO := w.cO
        refine wr_vret rfl rfl ?_
        exact ⟨rfl, o4, w, ⟨by rw [n4 34 (by decide), s2], by rw [s4, hv]⟩, fun j a b => by rw [n4 j b, n3 j a b]⟩
      refine wr_aload_n rfl rfl rfl ?_
      refine wr_iload_n rfl rfl rfl ?_
      refine wr_if_ne rfl rfl rfl (by omega) (fun c30 => ?_) (fun c30 => by exfalso; omega)
      refine wr_iload_n rfl rfl rfl ?_
      refine wr_iconst rfl rfl ?_
      refine wr_isub rfl rfl ?_
      refine wr_putI (ci := 12) (f := 34) (fs' := [_, _, _, _, _, _, _, _, _, _, _, _, _, _, _, _, _, _, _, _, _, _, _, _, _, _, _, _, _, _, _, _, _, _, _, _, _, _, _]) rfl rfl rfl (by assumption) rfl rfl rfl (fun h1 e1 => ?_)
      have w : FW h0 h1 (updI o 34 ((k:Int)-1)) F A := by rw [e1]; exact w.setO (updI o 34 ((k:Int)-1))
      clear e1
      obtain ⟨o2, w, s2, n2⟩ := fo_ex w
      have cO := w.cO
      have f19 : o2 19 = (n : Int) := by rw [n2 19 (by decide), e19]
      by_cases kn : k = n
      ·
        refine wr_aload_n rfl rfl rfl ?_
        refine wr_iload_n rfl rfl rfl ?_
        refine wr_aload_n rfl rfl rfl ?_
        refine wr_get (ci := 12) (f := 19) rfl rfl rfl (by assumption) rfl ?_
        rw [f19]
        refine wr_icmp_ne rfl rfl rfl (by omega) (by omega) (fun c49 => by exfalso; omega) (fun c49 => ?_)
        refine wr_aload_n rfl rfl rfl ?_
        refine wr_get (ci := 12) (f := 19) rfl rfl rfl (by assumption) rfl ?_
        rw [f19]
        refine wr_iconst rfl rfl ?_
        refine wr_isub rfl rfl ?_
        refine wr_goto rfl rfl ?_
        refine wr_putI (ci := 12) (f := 35) (fs' := [_, _, _, _, _, _, _, _, _, _, _, _, _, _, _, _, _, _, _, _, _, _, _, _, _, _, _, _, _, _, _, _, _, _, _, _, _, _, _]) rfl rfl rfl (by assumption) rfl rfl rfl (fun h1 e1 => ?_)
        have w : FW h0 h1 (updI o2 35 ((n:Int)-1)) F A := by rw [e1]; exact w.setO (updI o2 35 ((n:Int)-1))
        clear e1
        obtain ⟨o3, w, s3, n3⟩ := fo_ex w
        have cO := w.cO
        exact J ((n : Int) - 1) o3 _ (by rw [if_pos kn]) w s3 (by rw [n3 34 (by decide), s2]) (fun j a b => by rw [n3 j b, n2 j a])
      ·
        refine wr_aload_n rfl rfl rfl ?_
        refine wr_iload_n rfl rfl rfl ?_
        refine wr_aload_n rfl rfl rfl ?_
        refine wr_get (ci := 12) (f := 19) rfl rfl rfl (by assumption) rfl ?_
        rw [f19]
        refine wr_icmp_ne rfl rfl rfl (by omega) (by omega) (fun c49 => ?_) (fun c49 => by exfalso; omega)
        refine wr_iload_n rfl rfl rfl ?_
        refine wr_putI (ci := 12) (f := 35) (fs' := [_, _, _, _, _, _, _, _, _, _, _, _, _, _, _, _, _, _, _, _, _, _, _, _, _, _, _, _, _, _, _, _, _, _, _, _, _, _, _]) rfl rfl rfl (by assumption) rfl rfl rfl (fun h1 e1 => ?_)
        have w : FW h0 h1 (updI o2 35 (k)) F A := by rw [e1]; exact w.setO (updI o2 35 (k))
        clear e1
        obtain ⟨o3, w, s3, n3⟩ := fo_ex w
        have cO := w.cO
        exact J (k : Int) o3 _ (by rw [if_neg kn]) w s3 (by rw [n3 34 (by decide), s2]) (fun j a b => by rw [n3 j b, n2 j a])
  have L : ∀ (m i : Nat), i + m = n → gkF off x m i = gk n off x → am_w X d 174 (2, [.ref 164, .long (lI x), am_U, .int (iI i)], [], h) (fun r h' => r = none ∧ ∃ o', FW h0 h' o' F A ∧ (o' 34 = (if gk n off x = 0 then 0 else (gk n off x : Int) - 1) ∧ o' 35 = (if gk n off x = 0 then 0 else if gk n off x = n then (n : Int) - 1 else (gk n off x : Int))) ∧ ∀ j, j ≠ 34 → j ≠ 35 → o' j = o j) := by
    intro m
    induction m with
    | zero =>
      intro i hi e
      refine wr_iload_n rfl rfl rfl ?_
      refine wr_aload_n rfl rfl rfl ?_
      refine wr_get (ci := 12) (f := 19) rfl rfl rfl (by assumption) rfl ?_
      rw [e19]
      refine wr_icmp_ge rfl rfl rfl (by omega) (by omega) (fun c7 => ?_) (fun c7 => by exfalso; omega)
      exact K i (by rw [← e]; rfl)
    | succ m ih =>
      intro i hi e
      have hb := ok.2.1 i
      have ei := (eG i (by omega)).1
      unfold gkF at e
      by_cases c : off i ≤ x
      ·
        rw [if_pos c] at e
        refine wr_iload_n rfl rfl rfl ?_
        refine wr_aload_n rfl rfl rfl ?_
        refine wr_get (ci := 12) (f := 19) rfl rfl rfl (by assumption) rfl ?_
        rw [e19]
        refine wr_icmp_ge rfl rfl rfl (by omega) (by omega) (fun c7 => by exfalso; omega) (fun c7 => ?_)
        refine wr_aload_n rfl rfl rfl ?_
        refine wr_get (ci := 12) (f := 17) rfl rfl rfl (by assumption) rfl ?_
        refine wr_iload_n rfl rfl rfl ?_
        refine wr_iald rfl rfl (by assumption) (by omega) (by omega) ?_
        rw [Int.toNat_natCast, ei]
        refine wr_i2l rfl rfl (by omega) ?_
        refine wr_lload_n rfl rfl rfl ?_
        refine wr_l_gt rfl rfl rfl rfl rfl (by omega) (by omega) (fun c18 => by exfalso; omega) (fun c18 => ?_)
        refine wr_iinc (ls' := [_, _, _, _]) rfl rfl rfl rfl ?_
        refine wr_goto rfl rfl ?_
        exact ih (i + 1) (by omega) e
      ·
        rw [if_neg c] at e
        refine wr_iload_n rfl rfl rfl ?_
        refine wr_aload_n rfl rfl rfl ?_
        refine wr_get (ci := 12) (f := 19) rfl rfl rfl (by assumption) rfl ?_
        rw [e19]
        refine wr_icmp_ge rfl rfl rfl (by omega) (by omega) (fun c7 => by exfalso; omega) (fun c7 => ?_)
        refine wr_aload_n rfl rfl rfl ?_
        refine wr_get (ci := 12) (f := 17) rfl rfl rfl (by assumption) rfl ?_
        refine wr_iload_n rfl rfl rfl ?_
        refine wr_iald rfl rfl (by assumption) (by omega) (by omega) ?_
        rw [Int.toNat_natCast, ei]
        refine wr_i2l rfl rfl (by omega) ?_
        refine wr_lload_n rfl rfl rfl ?_
        refine wr_l_gt rfl rfl rfl rfl rfl (by omega) (by omega) (fun c18 => ?_) (fun c18 => by exfalso; omega)
        exact K i e
  refine am_c.of (Nat.le_of_ble_eq_true rfl) ?_
  show am_w _ _ _ (_, [_, _, _, _], _, _) _
  refine wr_iconst rfl rfl ?_
  refine wr_istore_n (ls' := [_, _, _, _]) rfl rfl (Nat.le_of_ble_eq_true rfl) rfl ?_
  exact L n 0 (by omega) rfl
theorem ln_cases {x a b : Int} (ok : okG n off lev) (hn : 0 < n) (ha : a = (if gk n off x = 0 then 0 else (gk n off x : Int) - 1)) (hb : b = (if gk n off x = 0 then 0 else if gk n off x = n then (n : Int) - 1 else (gk n off x : Int))) : ∃ f t : Nat, a = (f : Int) ∧ b = (t : Int) ∧ f < n ∧ t < n ∧ ((f = t ∧ gL n off x = 1 ∧ gU n off lev x = lev f) ∨ (f < t ∧ gL n off x = off t - off f ∧ gU n off lev x = lev f * (off t - off f) + (lev t - lev f) * (x - off f))) := by
  have ks := gk_spec n off x
  unfold gL gU
  generalize gk n off x = k at *
  by_cases k0 : k = 0
  · rw [if_pos k0] at ha hb
    exact ⟨0, 0, ha, hb, hn, hn, Or.inl ⟨rfl, by rw [if_neg (by omega)], by rw [if_neg (by omega), if_pos k0]⟩⟩
  · rw [if_neg k0] at ha hb
    by_cases kn : k = n
    · rw [if_pos kn] at hb
      exact ⟨k - 1, k - 1, by omega, by omega, by omega, by omega, Or.inl ⟨rfl, by rw [if_neg (by omega)], by rw [if_neg (by omega), if_neg k0, if_pos (by omega)]⟩⟩
    · rw [if_neg kn] at hb
      exact ⟨k - 1, k, by omega, by omega, by omega, by omega, Or.inr ⟨by omega, by rw [if_pos (by omega)], by rw [if_neg (by omega), if_neg k0, if_neg (by omega)]⟩⟩
/-- height over the ground -/
theorem rr_above {d : Nat} (w : FW h0 h o F A) (g : RG n off lev o A) (ok : okG n off lev) (hs : sg = 1 ∨ sg = -1) (e29 : o 29 = sg) (e30 : o 30 = out) (e31 : o 31 = high) (ho : 0 ≤ out ∧ out ≤ 2000000) : am_c X (d + 2) 173 [.ref 164] h (fun r h' => r = some (.long (lI (-gapS n off lev sg out high))) ∧ ∃ o', FW h0 h' o' F A ∧ o' 36 = gL n off (sg * out) ∧ ∀ j, j ≠ 34 → j ≠ 35 → j ≠ 36 → o' j = o j) := by
  have cO := w.cO
  have n12 := ok.1
  have g0 := g
  obtain ⟨e19, eG⟩ := g
  refine am_c.of (Nat.le_of_ble_eq_true rfl) ?_
  show am_w _ _ _ (_, [_, _, _, _, _, _, _], _, _) _
  by_cases n0 : n = 0
  · have k0 : gk n off (sg * out) = 0 := by have := (gk_spec n off (sg * out)).1; omega
    have l1 : gL n off (sg * out) = 1 := by unfold gL; rw [if_neg (by omega)]
    have fe : -gapS n off lev sg out high = high := by
      unfold gapS gU
      rw [if_pos n0, l1]
      omega
    rw [fe, l1]
    refine wr_aload_n rfl rfl rfl ?_
    refine wr_get (ci := 12) (f := 19) rfl rfl rfl (by assumption) rfl ?_
    rw [e19]
    refine wr_if_ne rfl rfl rfl (by omega) (fun c4 => by exfalso; omega) (fun c4 => ?_)
    refine wr_aload_n rfl rfl rfl ?_
    refine wr_lconst (z := 1) rfl rfl rfl ?_
    refine wr_putL (ci := 12) (f := 36) (fs' := [_, _, _, _, _, _, _, _, _, _, _, _, _, _, _, _, _, _, _, _, _, _, _, _, _, _, _, _, _, _, _, _, _, _, _, _, _, _, _]) rfl rfl rfl (by assumption) rfl rfl rfl (fun h1 e1 => ?_)
    have w : FW h0 h1 (updI o 36 (1)) F A := by rw [e1]; exact w.setO (updI o 36 (1))
    clear e1
    obtain ⟨o2, w, s2, n2⟩ := fo_ex w
    have cO := w.cO
    have f31 : o2 31 = high := by rw [n2 31 (by decide), e31]
    refine wr_aload_n rfl rfl rfl ?_
    refine wr_get (ci := 12) (f := 31) rfl rfl rfl (by assumption) rfl ?_
    rw [f31]
    refine wr_lret rfl rfl ?_
    exact ⟨rfl, o2, w, s2, fun j _ _ c => n2 j c⟩
  have hx : -2000000 ≤ sg * out ∧ sg * out ≤ 2000000 := by rcases hs with rfl | rfl <;> omega
  obtain ⟨x, ex⟩ : ∃ x, x = sg * out := ⟨_, rfl⟩
  have fe : -gapS n off lev sg out high = high * gL n off x - 1000 * gU n off lev x := by
    unfold gapS
    rw [← ex]
    omega
  rw [fe, ← ex]
  rw [← ex] at hx
  clear fe
  refine wr_aload_n rfl rfl rfl ?_
  refine wr_get (ci := 12) (f := 19) rfl rfl rfl (by assumption) rfl ?_
  rw [e19]
  refine wr_if_ne rfl rfl rfl (by omega) (fun c4 => ?_) (fun c4 => by exfalso; omega)
  refine wr_aload_n rfl rfl rfl ?_
  refine wr_get (ci := 12) (f := 29) rfl rfl rfl (by assumption) rfl ?_
  rw [e29]
  refine wr_i2l rfl rfl (by omega) ?_
  refine wr_aload_n rfl rfl rfl ?_
  refine wr_get (ci := 12) (f := 30) rfl rfl rfl (by assumption) rfl ?_
  rw [e30]
  refine wr_lmul rfl rfl ?_
  rw [← ex]
  refine wr_lstore_n (ls' := [_, _, _, _, _, _, _]) rfl rfl (Nat.le_of_ble_eq_true rfl) rfl ?_
  refine wr_aload_n rfl rfl rfl ?_
  refine wr_lload_n rfl rfl rfl ?_
  refine wr_cv1 (k' := 174) (ci := 12) rfl rfl rfl rfl (by assumption) rfl rfl (rr_line (x := x) w g0 ok (by omega) (by omega)) (fun r h2 q => ?_)
  obtain ⟨rfl, o2, w, ⟨q1, q2⟩, n2⟩ := q
  obtain ⟨f, t, f1, f2, f3, f4, cs⟩ := ln_cases ok (by omega) q1 q2
  clear q1 q2
  have cO := w.cO
  have cA := w.arr (p := 175) (n := 12) (by decide) (by decide)
  have cB := w.arr (p := 176) (n := 12) (by decide) (by decide)
  have f31 : o2 31 = high := by rw [n2 31 (by decide) (by decide), e31]
  have of1 := ok.2.1 f
  have ot1 := ok.2.1 t
  have lf1 := ok.2.2.1 f
  have lt1 := ok.2.2.1 t
  have ef := eG f f3
  have et := eG t f4
  rcases cs with ⟨ft, l1, u1⟩ | ⟨ft, l1, u1⟩
  ·
    rw [l1, u1]
    refine wr_aload_n rfl rfl rfl ?_
    refine wr_aload_n rfl rfl rfl ?_
    refine wr_get (ci := 12) (f := 34) rfl rfl rfl (by assumption) rfl ?_
    rw [f1]
    refine wr_aload_n rfl rfl rfl ?_
    refine wr_get (ci := 12) (f := 35) rfl rfl rfl (by assumption) rfl ?_
    rw [f2]
    refine wr_icmp_ne rfl rfl rfl (by omega) (by omega) (fun c42 => by exfalso; omega) (fun c42 => ?_)
    refine wr_lconst (z := 1) rfl rfl rfl ?_
    refine wr_goto rfl rfl ?_
    refine wr_putL (ci := 12) (f := 36) (fs' := [_, _, _, _, _, _, _, _, _, _, _, _, _, _, _, _, _, _, _, _, _, _, _, _, _, _, _, _, _, _, _, _, _, _, _, _, _, _, _]) rfl rfl rfl (by assumption) rfl rfl rfl (fun h1 e1 => ?_)
    have w : FW h0 h1 (updI o2 36 (1)) F A := by rw [e1]; exact w.setO (updI o2 36 (1))
    clear e1
    obtain ⟨o3, w, s3, n3⟩ := fo_ex w
    have cO := w.cO
    have g1 : o3 34 = (f : Int) := by rw [n3 34 (by decide), f1]
    have g2 : o3 35 = (t : Int) := by rw [n3 35 (by decide), f2]
    have g31 : o3 31 = high := by rw [n3 31 (by decide), f31]
    have cA := w.arr (p := 175) (n := 12) (by decide) (by decide)
    have cB := w.arr (p := 176) (n := 12) (by decide) (by decide)
    refine wr_aload_n rfl rfl rfl ?_
    refine wr_get (ci := 12) (f := 34) rfl rfl rfl (by assumption) rfl ?_
    rw [g1]
    refine wr_aload_n rfl rfl rfl ?_
    refine wr_get (ci := 12) (f := 35) rfl rfl rfl (by assumption) rfl ?_
    rw [g2]
    refine wr_icmp_ne rfl rfl rfl (by omega) (by omega) (fun c80 => by exfalso; omega) (fun c80 => ?_)
    refine wr_lconst (z := 0) rfl rfl rfl ?_
    refine wr_goto rfl rfl ?_
    refine wr_lstore_n (ls' := [_, _, _, _, _, _, _]) rfl rfl (Nat.le_of_ble_eq_true rfl) rfl ?_
    refine wr_aload_n rfl rfl rfl ?_
    refine wr_get (ci := 12) (f := 34) rfl rfl rfl (by assumption) rfl ?_
    rw [g1]
    refine wr_aload_n rfl rfl rfl ?_
    refine wr_get (ci := 12) (f := 35) rfl rfl rfl (by assumption) rfl ?_
    rw [g2]
    refine wr_icmp_ne rfl rfl rfl (by omega) (by omega) (fun c116 => by exfalso; omega) (fun c116 => ?_)
    refine wr_lconst (z := 0) rfl rfl rfl ?_
    refine wr_goto rfl rfl ?_
    refine wr_lstore (ls' := [_, _, _, _, _, _, _]) rfl rfl (Nat.le_of_ble_eq_true rfl) rfl ?_
    refine wr_aload_n rfl rfl rfl ?_
    refine wr_get (ci := 12) (f := 31) rfl rfl rfl (by assumption) rfl ?_
    rw [g31]
    refine wr_aload_n rfl rfl rfl ?_
    refine wr_get (ci := 12) (f := 36) rfl rfl rfl (by assumption) rfl ?_
    rw [s3]
    refine wr_lmul rfl rfl ?_
    refine wr_ldc2 (z := 1000) rfl rfl rfl (by decide) ?_
    refine wr_aload_n rfl rfl rfl ?_
    refine wr_get (ci := 12) (f := 18) rfl rfl rfl (by assumption) rfl ?_
    refine wr_aload_n rfl rfl rfl ?_
    refine wr_get (ci := 12) (f := 34) rfl rfl rfl (by assumption) rfl ?_
    rw [g1]
    refine wr_iald rfl rfl (by assumption) (by omega) (by omega) ?_
    rw [Int.toNat_natCast, ef.2]
    refine wr_i2l rfl rfl (by omega) ?_
    refine wr_aload_n rfl rfl rfl ?_
    refine wr_get (ci := 12) (f := 36) rfl rfl rfl (by assumption) rfl ?_
    rw [s3]
    refine wr_lmul rfl rfl ?_
    refine wr_lload_n rfl rfl rfl ?_
    refine wr_lload rfl rfl rfl ?_
    refine wr_lmul rfl rfl ?_
    refine wr_ladd rfl rfl ?_
    refine wr_lmul rfl rfl ?_
    refine wr_lsub rfl rfl ?_
    refine wr_lret rfl rfl ?_
    refine ⟨?_, o3, w, s3, fun j a b c => by rw [n3 j c, n2 j a b]⟩
    rw [show high * 1 - 1000 * (lev f * 1 + 0 * 0) = high * 1 - 1000 * lev f by omega]
  ·
    rw [l1, u1]
    refine wr_aload_n rfl rfl rfl ?_
    refine wr_aload_n rfl rfl rfl ?_
    refine wr_get (ci := 12) (f := 34) rfl rfl rfl (by assumption) rfl ?_
    rw [f1]
    refine wr_aload_n rfl rfl rfl ?_
    refine wr_get (ci := 12) (f := 35) rfl rfl rfl (by assumption) rfl ?_
    rw [f2]
    refine wr_icmp_ne rfl rfl rfl (by omega) (by omega) (fun c42 => ?_) (fun c42 => by exfalso; omega)
    refine wr_aload_n rfl rfl rfl ?_
    refine wr_get (ci := 12) (f := 17) rfl rfl rfl (by assumption) rfl ?_
    refine wr_aload_n rfl rfl rfl ?_
    refine wr_get (ci := 12) (f := 35) rfl rfl rfl (by assumption) rfl ?_
    rw [f2]
    refine wr_iald rfl rfl (by assumption) (by omega) (by omega) ?_
    rw [Int.toNat_natCast, et.1]
    refine wr_aload_n rfl rfl rfl ?_
    refine wr_get (ci := 12) (f := 17) rfl rfl rfl (by assumption) rfl ?_
    refine wr_aload_n rfl rfl rfl ?_
    refine wr_get (ci := 12) (f := 34) rfl rfl rfl (by assumption) rfl ?_
    rw [f1]
    refine wr_iald rfl rfl (by assumption) (by omega) (by omega) ?_
    rw [Int.toNat_natCast, ef.1]
    refine wr_isub rfl rfl ?_
    refine wr_i2l rfl rfl (by omega) ?_
    refine wr_putL (ci := 12) (f := 36) (fs' := [_, _, _, _, _, _, _, _, _, _, _, _, _, _, _, _, _, _, _, _, _, _, _, _, _, _, _, _, _, _, _, _, _, _, _, _, _, _, _]) rfl rfl rfl (by assumption) rfl rfl rfl (fun h1 e1 => ?_)
    have w : FW h0 h1 (updI o2 36 (off t - off f)) F A := by rw [e1]; exact w.setO (updI o2 36 (off t - off f))
    clear e1
    obtain ⟨o3, w, s3, n3⟩ := fo_ex w
    have cO := w.cO
    have g1 : o3 34 = (f : Int) := by rw [n3 34 (by decide), f1]
    have g2 : o3 35 = (t : Int) := by rw [n3 35 (by decide), f2]
    have g31 : o3 31 = high := by rw [n3 31 (by decide), f31]
    have cA := w.arr (p := 175) (n := 12) (by decide) (by decide)
    have cB := w.arr (p := 176) (n := 12) (by decide) (by decide)
    refine wr_aload_n rfl rfl rfl ?_
    refine wr_get (ci := 12) (f := 34) rfl rfl rfl (by assumption) rfl ?_
    rw [g1]
    refine wr_aload_n rfl rfl rfl ?_
    refine wr_get (ci := 12) (f := 35) rfl rfl rfl (by assumption) rfl ?_
    rw [g2]
    refine wr_icmp_ne rfl rfl rfl (by omega) (by omega) (fun c80 => ?_) (fun c80 => by exfalso; omega)
    refine wr_aload_n rfl rfl rfl ?_
    refine wr_get (ci := 12) (f := 18) rfl rfl rfl (by assumption) rfl ?_
    refine wr_aload_n rfl rfl rfl ?_
    refine wr_get (ci := 12) (f := 35) rfl rfl rfl (by assumption) rfl ?_
    rw [g2]
    refine wr_iald rfl rfl (by assumption) (by omega) (by omega) ?_
    rw [Int.toNat_natCast, et.2]
    refine wr_aload_n rfl rfl rfl ?_
    refine wr_get (ci := 12) (f := 18) rfl rfl rfl (by assumption) rfl ?_
    refine wr_aload_n rfl rfl rfl ?_
    refine wr_get (ci := 12) (f := 34) rfl rfl rfl (by assumption) rfl ?_
    rw [g1]
    refine wr_iald rfl rfl (by assumption) (by omega) (by omega) ?_
    rw [Int.toNat_natCast, ef.2]
    refine wr_isub rfl rfl ?_
    refine wr_i2l rfl rfl (by omega) ?_
    refine wr_lstore_n (ls' := [_, _, _, _, _, _, _]) rfl rfl (Nat.le_of_ble_eq_true rfl) rfl ?_
    refine wr_aload_n rfl rfl rfl ?_
    refine wr_get (ci := 12) (f := 34) rfl rfl rfl (by assumption) rfl ?_
    rw [g1]
    refine wr_aload_n rfl rfl rfl ?_
    refine wr_get (ci := 12) (f := 35) rfl rfl rfl (by assumption) rfl ?_
    rw [g2]
    refine wr_icmp_ne rfl rfl rfl (by omega) (by omega) (fun c116 => ?_) (fun c116 => by exfalso; omega)
    refine wr_lload_n rfl rfl rfl ?_
    refine wr_aload_n rfl rfl rfl ?_
    refine wr_get (ci := 12) (f := 17) rfl rfl rfl (by assumption) rfl ?_
    refine wr_aload_n rfl rfl rfl ?_
    refine wr_get (ci := 12) (f := 34) rfl rfl rfl (by assumption) rfl ?_
    rw [g1]
    refine wr_iald rfl rfl (by assumption) (by omega) (by omega) ?_
    rw [Int.toNat_natCast, ef.1]
    refine wr_i2l rfl rfl (by omega) ?_
    refine wr_lsub rfl rfl ?_
    refine wr_lstore (ls' := [_, _, _, _, _, _, _]) rfl rfl (Nat.le_of_ble_eq_true rfl) rfl ?_
    refine wr_aload_n rfl rfl rfl ?_
    refine wr_get (ci := 12) (f := 31) rfl rfl rfl (by assumption) rfl ?_
    rw [g31]
    refine wr_aload_n rfl rfl rfl ?_
    refine wr_get (ci := 12) (f := 36) rfl rfl rfl (by assumption) rfl ?_
    rw [s3]
    refine wr_lmul rfl rfl ?_
    refine wr_ldc2 (z := 1000) rfl rfl rfl (by decide) ?_
    refine wr_aload_n rfl rfl rfl ?_
    refine wr_get (ci := 12) (f := 18) rfl rfl rfl (by assumption) rfl ?_
    refine wr_aload_n rfl rfl rfl ?_
    refine wr_get (ci := 12) (f := 34) rfl rfl rfl (by assumption) rfl ?_
    rw [g1]
    refine wr_iald rfl rfl (by assumption) (by omega) (by omega) ?_
    rw [Int.toNat_natCast, ef.2]
    refine wr_i2l rfl rfl (by omega) ?_
    refine wr_aload_n rfl rfl rfl ?_
    refine wr_get (ci := 12) (f := 36) rfl rfl rfl (by assumption) rfl ?_
    rw [s3]
    refine wr_lmul rfl rfl ?_
    refine wr_lload_n rfl rfl rfl ?_
    refine wr_lload rfl rfl rfl ?_
    refine wr_lmul rfl rfl ?_
    refine wr_ladd rfl rfl ?_
    refine wr_lmul rfl rfl ?_
    refine wr_lsub rfl rfl ?_
    refine wr_lret rfl rfl ?_
    exact ⟨rfl, o3, w, s3, fun j a b c => by rw [n3 j c, n2 j a b]⟩
theorem rr_holds {d : Nat} {c k far : Int} (w : FW h0 h o F A) (g : RG n off lev o A) (ok : okG n off lev) (hs : sg = 1 ∨ sg = -1) (e29 : o 29 = sg) (e30 : o 30 = out) (e31 : o 31 = high) (ho : 0 ≤ out ∧ out ≤ 2000000) (hh : -200000000000 ≤ high ∧ high ≤ 200000000000) (hk : 6 ≤ k ∧ k ≤ 9) (hc : c = (if k = 6 then 99 else if k = 7 then 102 else if k = 8 then 111 else 104)) (hf : 0 ≤ far ∧ far ≤ 99999) : am_c X (d + 3) 182 [.ref 164, .int (iI c), .int (iI far)] h (fun r h' => r = some (.int (iI (b2 (holdP k far (gapS n off lev sg out high) (1000 * gL n off (sg * out)))))) ∧ ∃ o', FW h0 h' o' F A ∧ ∀ j, j ≠ 34 → j ≠ 35 → j ≠ 36 → o' j = o j) := by
  have gi := gapS_in (n := n) (off := off) (lev := lev) (sg := sg) (ou := out) (hi := high) ok hh
  have li := gL_in (n := n) (off := off) (lev := lev) (o := sg * out) ok
  have cO := w.cO
  refine am_c.of (Nat.le_of_ble_eq_true rfl) ?_
  show am_w _ _ _ (_, [_, _, _, _, _], _, _) _
  refine wr_aload_n rfl rfl rfl ?_
  refine wr_cv0 (k' := 173) (ci := 12) rfl rfl rfl rfl (by assumption) rfl rfl (rr_above w g ok hs e29 e30 e31 ho) (fun r h2 q => ?_)
  obtain ⟨rfl, o2, w, s2, n2⟩ := q
  have cO := w.cO
  obtain ⟨G, eG⟩ : ∃ G, G = gapS n off lev sg out high := ⟨_, rfl⟩
  obtain ⟨L, eL⟩ : ∃ L, L = gL n off (sg * out) := ⟨_, rfl⟩
  rw [← eG] at gi ⊢
  rw [← eL] at li s2 ⊢
  clear g eG eL
  have k4 : k = 6 ∨ k = 7 ∨ k = 8 ∨ k = 9 := by omega
  rcases k4 with rfl | rfl | rfl | rfl
  · have hc : c = 99 := hc
    by_cases p : 0 < G
    ·
      rw [b2_t (show holdP 6 far G (1000 * L) from Or.inl ⟨rfl, p⟩)]
      refine wr_lstore_n (ls' := [_, _, _, _, _]) rfl rfl (Nat.le_of_ble_eq_true rfl) rfl ?_
      refine wr_iload_n rfl rfl rfl ?_
      refine wr_bipush rfl rfl (by decide) ?_
      refine wr_icmp_ne rfl rfl rfl (by omega) (by omega) (fun c8 => by exfalso; omega) (fun c8 => ?_)
      refine wr_lload_n rfl rfl rfl ?_
      refine wr_lconst (z := 0) rfl rfl rfl ?_
      refine wr_l_ge rfl rfl rfl rfl rfl (by omega) (by omega) (fun c13 => by exfalso; omega) (fun c13 => ?_)
      refine wr_iconst rfl rfl ?_
      refine wr_goto rfl rfl ?_
      refine wr_zret rfl rfl (by decide) ?_
      exact ⟨rfl, o2, w, n2⟩
    ·
      rw [b2_f (show ¬ holdP 6 far G (1000 * L) from fun q => by rcases q with q | q | q | q <;> omega)]
      refine wr_lstore_n (ls' := [_, _, _, _, _]) rfl rfl (Nat.le_of_ble_eq_true rfl) rfl ?_
      refine wr_iload_n rfl rfl rfl ?_
      refine wr_bipush rfl rfl (by decide) ?_
      refine wr_icmp_ne rfl rfl rfl (by omega) (by omega) (fun c8 => by exfalso; omega) (fun c8 => ?_)
      refine wr_lload_n rfl rfl rfl ?_
      refine wr_lconst (z := 0) rfl rfl rfl ?_
      refine wr_l_ge rfl rfl rfl rfl rfl (by omega) (by omega) (fun c13 => ?_) (fun c13 => by exfalso; omega)
      refine wr_iconst rfl rfl ?_
      refine wr_goto rfl rfl ?_
      refine wr_zret rfl rfl (by decide) ?_
      exact ⟨rfl, o2, w, n2⟩
  · have hc : c = 102 := hc
    by_cases p : G < 0
    ·
      rw [b2_t (show holdP 7 far G (1000 * L) from Or.inr (Or.inl ⟨rfl, p⟩))]
      refine wr_lstore_n (ls' := [_, _, _, _, _]) rfl rfl (Nat.le_of_ble_eq_true rfl) rfl ?_
      refine wr_iload_n rfl rfl rfl ?_
      refine wr_bipush rfl rfl (by decide) ?_
      refine wr_icmp_ne rfl rfl rfl (by omega) (by omega) (fun c8 => ?_) (fun c8 => by exfalso; omega)
      refine wr_iload_n rfl rfl rfl ?_
      refine wr_bipush rfl rfl (by decide) ?_
      refine wr_icmp_ne rfl rfl rfl (by omega) (by omega) (fun c28 => by exfalso; omega) (fun c28 => ?_)
      refine wr_lload_n rfl rfl rfl ?_
      refine wr_lconst (z := 0) rfl rfl rfl ?_
      refine wr_l_le rfl rfl rfl rfl rfl (by omega) (by omega) (fun c33 => by exfalso; omega) (fun c33 => ?_)
      refine wr_iconst rfl rfl ?_
      refine wr_goto rfl rfl ?_
      refine wr_zret rfl rfl (by decide) ?_
      exact ⟨rfl, o2, w, n2⟩
    ·
      rw [b2_f (show ¬ holdP 7 far G (1000 * L) from fun q => by rcases q with q | q | q | q <;> omega)]
      refine wr_lstore_n (ls' := [_, _, _, _, _]) rfl rfl (Nat.le_of_ble_eq_true rfl) rfl ?_
      refine wr_iload_n rfl rfl rfl ?_
      refine wr_bipush rfl rfl (by decide) ?_
      refine wr_icmp_ne rfl rfl rfl (by omega) (by omega) (fun c8 => ?_) (fun c8 => by exfalso; omega)
      refine wr_iload_n rfl rfl rfl ?_
      refine wr_bipush rfl rfl (by decide) ?_
      refine wr_icmp_ne rfl rfl rfl (by omega) (by omega) (fun c28 => by exfalso; omega) (fun c28 => ?_)
      refine wr_lload_n rfl rfl rfl ?_
      refine wr_lconst (z := 0) rfl rfl rfl ?_
      refine wr_l_le rfl rfl rfl rfl rfl (by omega) (by omega) (fun c33 => ?_) (fun c33 => by exfalso; omega)
      refine wr_iconst rfl rfl ?_
      refine wr_goto rfl rfl ?_
      refine wr_zret rfl rfl (by decide) ?_
      exact ⟨rfl, o2, w, n2⟩
  · have hc : c = 111 := hc
    by_cases p : G = 0
    ·
      rw [b2_t (show holdP 8 far G (1000 * L) from Or.inr (Or.inr (Or.inl ⟨rfl, p⟩)))]
      refine wr_lstore_n (ls' := [_, _, _, _, _]) rfl rfl (Nat.le_of_ble_eq_true rfl) rfl ?_
      refine wr_iload_n rfl rfl rfl ?_
      refine wr_bipush rfl rfl (by decide) ?_
      refine wr_icmp_ne rfl rfl rfl (by omega) (by omega) (fun c8 => ?_) (fun c8 => by exfalso; omega)
      refine wr_iload_n rfl rfl rfl ?_
      refine wr_bipush rfl rfl (by decide) ?_
      refine wr_icmp_ne rfl rfl rfl (by omega) (by omega) (fun c28 => ?_) (fun c28 => by exfalso; omega)
      refine wr_iload_n rfl rfl rfl ?_
      refine wr_bipush rfl rfl (by decide) ?_
      refine wr_icmp_ne rfl rfl rfl (by omega) (by omega) (fun c48 => by exfalso; omega) (fun c48 => ?_)
      refine wr_lload_n rfl rfl rfl ?_
      refine wr_lconst (z := 0) rfl rfl rfl ?_
      refine wr_l_ne rfl rfl rfl rfl rfl (by omega) (by omega) (fun c53 => by exfalso; omega) (fun c53 => ?_)
      refine wr_iconst rfl rfl ?_
      refine wr_goto rfl rfl ?_
      refine wr_zret rfl rfl (by decide) ?_
      exact ⟨rfl, o2, w, n2⟩
    ·
      rw [b2_f (show ¬ holdP 8 far G (1000 * L) from fun q => by rcases q with q | q | q | q <;> omega)]
      refine wr_lstore_n (ls' := [_, _, _, _, _]) rfl rfl (Nat.le_of_ble_eq_true rfl) rfl ?_
      refine wr_iload_n rfl rfl rfl ?_
      refine wr_bipush rfl rfl (by decide) ?_
      refine wr_icmp_ne rfl rfl rfl (by omega) (by omega) (fun c8 => ?_) (fun c8 => by exfalso; omega)
      refine wr_iload_n rfl rfl rfl ?_
      refine wr_bipush rfl rfl (by decide) ?_
      refine wr_icmp_ne rfl rfl rfl (by omega) (by omega) (fun c28 => ?_) (fun c28 => by exfalso; omega)
      refine wr_iload_n rfl rfl rfl ?_
      refine wr_bipush rfl rfl (by decide) ?_
      refine wr_icmp_ne rfl rfl rfl (by omega) (by omega) (fun c48 => by exfalso; omega) (fun c48 => ?_)
      refine wr_lload_n rfl rfl rfl ?_
      refine wr_lconst (z := 0) rfl rfl rfl ?_
      refine wr_l_ne rfl rfl rfl rfl rfl (by omega) (by omega) (fun c53 => ?_) (fun c53 => by exfalso; omega)
      refine wr_iconst rfl rfl ?_
      refine wr_goto rfl rfl ?_
      refine wr_zret rfl rfl (by decide) ?_
      exact ⟨rfl, o2, w, n2⟩
  · have hc : c = 104 := hc
    have m := mulB (a := 1000 * far) (b := L) (A := 100000000) (B := 200000) (by omega) (by omega)
    have e : far * (1000 * L) = 1000 * far * L := by rw [Int.mul_left_comm, ← Int.mul_assoc]
    obtain ⟨M, eM⟩ : ∃ M, M = 1000 * far * L := ⟨_, rfl⟩
    rw [← eM] at m e
    have hp : holdP 9 far G (1000 * L) ↔ M < G.natAbs := by
      unfold holdP
      rw [e]
      constructor
      · intro q; rcases q with q | q | q | q <;> omega
      · intro q; exact Or.inr (Or.inr (Or.inr ⟨rfl, q⟩))
    clear e
    refine wr_lstore_n (ls' := [_, _, _, _, _]) rfl rfl (Nat.le_of_ble_eq_true rfl) rfl ?_
    refine wr_iload_n rfl rfl rfl ?_
    refine wr_bipush rfl rfl (by decide) ?_
    refine wr_icmp_ne rfl rfl rfl (by omega) (by omega) (fun c8 => ?_) (fun c8 => by exfalso; omega)
    refine wr_iload_n rfl rfl rfl ?_
    refine wr_bipush rfl rfl (by decide) ?_
    refine wr_icmp_ne rfl rfl rfl (by omega) (by omega) (fun c28 => ?_) (fun c28 => by exfalso; omega)
    refine wr_iload_n rfl rfl rfl ?_
    refine wr_bipush rfl rfl (by decide) ?_
    refine wr_icmp_ne rfl rfl rfl (by omega) (by omega) (fun c48 => ?_) (fun c48 => by exfalso; omega)
    refine wr_lload_n rfl rfl rfl ?_
    refine wr_cs1 (k' := 141) rfl rfl rfl rfl rfl (wp_rsize (u := -G) (by omega)) (fun r h2 q => ?_)
    obtain ⟨rfl, rfl⟩ := q
    rw [Int.natAbs_neg]
    by_cases p : M < G.natAbs
    ·
      rw [b2_t (hp.mpr p)]
      refine wr_ldc2 (z := 1000) rfl rfl rfl (by decide) ?_
      refine wr_iload_n rfl rfl rfl ?_
      refine wr_i2l rfl rfl (by omega) ?_
      refine wr_lmul rfl rfl ?_
      refine wr_aload_n rfl rfl rfl ?_
      refine wr_get (ci := 12) (f := 36) rfl rfl rfl (by assumption) rfl ?_
      rw [s2]
      refine wr_lmul rfl rfl ?_
      rw [← eM]
      refine wr_l_le rfl rfl rfl rfl rfl (by omega) (by omega) (fun c80 => by exfalso; omega) (fun c80 => ?_)
      refine wr_iconst rfl rfl ?_
      refine wr_goto rfl rfl ?_
      refine wr_zret rfl rfl (by decide) ?_
      exact ⟨rfl, o2, w, n2⟩
    ·
      rw [b2_f (fun q => p (hp.mp q))]
      refine wr_ldc2 (z := 1000) rfl rfl rfl (by decide) ?_
      refine wr_iload_n rfl rfl rfl ?_
      refine wr_i2l rfl rfl (by omega) ?_
      refine wr_lmul rfl rfl ?_
      refine wr_aload_n rfl rfl rfl ?_
      refine wr_get (ci := 12) (f := 36) rfl rfl rfl (by assumption) rfl ?_
      rw [s2]
      refine wr_lmul rfl rfl ?_
      rw [← eM]
      refine wr_l_le rfl rfl rfl rfl rfl (by omega) (by omega) (fun c80 => ?_) (fun c80 => by exfalso; omega)
      refine wr_iconst rfl rfl ?_
      refine wr_zret rfl rfl (by decide) ?_
      exact ⟨rfl, o2, w, n2⟩
/-- a corner more -/
theorem rr_cornI {d ax N : Nat} {c : Int} (w : FW h0 h o F A) (hs : sg = 1 ∨ sg = -1) (e25 : o 25 = (ax : Int)) (e32 : o 32 = (N : Int)) (e29 : o 29 = sg) (e30 : o 30 = out) (e31 : o 31 = high) (ho : 0 ≤ out ∧ out ≤ 2000000) (hh : -200000000000 ≤ high ∧ high ≤ 200000000000) (hN : ax + 1 + N ≤ 24) : am_c X (d + 6) 171 [.ref 164, .int (iI c)] h (fun r h' => r = none ∧ ∃ o' F' A', FW h0 h' o' F' A' ∧ (o' 32 = ((N + 1 : Nat) : Int) ∧ ∀ j, j ≠ 32 → o' j = o j) ∧ (A' 178 = updI (A 178) (ax + 1 + N) c ∧ ∀ j, j ≠ 178 → A' j = A j) ∧ (F' (ax + 1 + N) = ((sg * out : Int) : Rat) ∧ F' (26 + (ax + 1 + N)) = (high : Rat) / 1000 ∧ ∀ f, f ≠ ax + 1 + N → f ≠ 26 + (ax + 1 + N) → F' f = F f)) := by
  have cO := w.cO
  have cA := w.arr (p := 178) (n := 26) (by decide) (by decide)
  have hx : -2000000 ≤ sg * out ∧ sg * out ≤ 2000000 := by rcases hs with rfl | rfl <;> omega
  have ei : (ax : Int) + 1 + (N : Int) = ((ax + 1 + N : Nat) : Int) := by omega
  have ei0 : (0 : Int) + ((ax + 1 + N : Nat) : Int) = ((ax + 1 + N : Nat) : Int) := by omega
  have ei2 : (26 : Int) + ((ax + 1 + N : Nat) : Int) = ((26 + (ax + 1 + N) : Nat) : Int) := by omega
  obtain ⟨i, hi⟩ : ∃ i, i = ax + 1 + N := ⟨_, rfl⟩
  rw [← hi] at hN ei ei0 ei2 ⊢
  obtain ⟨x, ex⟩ : ∃ x, x = sg * out := ⟨_, rfl⟩
  rw [← ex] at hx ⊢
  refine am_c.of (Nat.le_of_ble_eq_true rfl) ?_
  show am_w _ _ _ (_, [_, _, _], _, _) _
  refine wr_aload_n rfl rfl rfl ?_
  refine wr_get (ci := 12) (f := 25) rfl rfl rfl (by assumption) rfl ?_
  rw [e25]
  refine wr_iconst rfl rfl ?_
  refine wr_iadd rfl rfl ?_
  refine wr_aload_n rfl rfl rfl ?_
  refine wr_get (ci := 12) (f := 32) rfl rfl rfl (by assumption) rfl ?_
  rw [e32]
  refine wr_iadd rfl rfl ?_
  rw [ei]
  refine wr_istore_n (ls' := [_, _, _]) rfl rfl (Nat.le_of_ble_eq_true rfl) rfl ?_
  refine wr_aload_n rfl rfl rfl ?_
  refine wr_get (ci := 12) (f := 24) rfl rfl rfl (by assumption) rfl ?_
  refine wr_iload_n rfl rfl rfl ?_
  refine wr_iload_n rfl rfl rfl ?_
  refine wr_iast rfl rfl (by assumption) (by omega) (by omega) (fun h1 e1 => ?_)
  rw [Int.toNat_natCast] at e1
  have w := e1 ▸ (w.setA (p := 178) (n := 26) (by decide) (by decide) (updI (A 178) (i) (c))).2
  clear e1
  obtain ⟨A2, w, sA, nA⟩ := fa_ex w
  have cO := w.cO
  refine wr_aload_n rfl rfl rfl ?_
  refine wr_iconst rfl rfl ?_
  refine wr_iload_n rfl rfl rfl ?_
  refine wr_iadd rfl rfl ?_
  rw [ei0]
  refine wr_aload_n rfl rfl rfl ?_
  refine wr_get (ci := 12) (f := 29) rfl rfl rfl (by assumption) rfl ?_
  rw [e29]
  refine wr_i2l rfl rfl (by omega) ?_
  refine wr_aload_n rfl rfl rfl ?_
  refine wr_get (ci := 12) (f := 30) rfl rfl rfl (by assumption) rfl ?_
  rw [e30]
  refine wr_lmul rfl rfl ?_
  rw [← ex]
  refine wr_lconst (z := 1) rfl rfl rfl ?_
  refine wr_cv3 (k' := 140) (ci := 12) rfl rfl rfl rfl (by assumption) rfl rfl (fw_set (f := i) (u := x) (v := 1) w (by omega) (by omega) (by omega) (by omega)) (fun r h2 q => ?_)
  obtain ⟨rfl, w⟩ := q
  obtain ⟨F2, w, s2, m2⟩ := ff_ex w
  have cO := w.cO
  refine wr_aload_n rfl rfl rfl ?_
  refine wr_bipush rfl rfl (by decide) ?_
  refine wr_iload_n rfl rfl rfl ?_
  refine wr_iadd rfl rfl ?_
  rw [ei2]
  refine wr_aload_n rfl rfl rfl ?_
  refine wr_get (ci := 12) (f := 31) rfl rfl rfl (by assumption) rfl ?_
  rw [e31]
  refine wr_ldc2 (z := 1000) rfl rfl rfl (by decide) ?_
  refine wr_cv3 (k' := 140) (ci := 12) rfl rfl rfl rfl (by assumption) rfl rfl (fw_set (f := 26 + i) (u := high) (v := 1000) w (by omega) (by omega) (by omega) (by omega)) (fun r h2 q => ?_)
  obtain ⟨rfl, w⟩ := q
  obtain ⟨F3, w, s3, m3⟩ := ff_ex w
  have cO := w.cO
  refine wr_aload_n rfl rfl rfl ?_
  refine wr_dup rfl rfl ?_
  refine wr_get (ci := 12) (f := 32) rfl rfl rfl (by assumption) rfl ?_
  rw [e32]
  refine wr_iconst rfl rfl ?_
  refine wr_iadd rfl rfl ?_
  refine wr_putI (ci := 12) (f := 32) (fs' := [_, _, _, _, _, _, _, _, _, _, _, _, _, _, _, _, _, _, _, _, _, _, _, _, _, _, _, _, _, _, _, _, _, _, _, _, _, _, _]) rfl rfl rfl (by assumption) rfl rfl rfl (fun h1 e1 => ?_)
  have w : FW h0 h1 (updI o 32 ((N:Int)+1)) F3 A2 := by rw [e1]; exact w.setO (updI o 32 ((N:Int)+1))
  clear e1
  obtain ⟨o2, w, s4, n4⟩ := fo_ex w
  have cO := w.cO
  refine wr_vret rfl rfl ?_
  refine ⟨rfl, o2, F3, A2, w, ⟨by rw [s4]; omega, n4⟩, ⟨sA, nA⟩, ?_, ?_, fun f a b => by rw [m3 f b, m2 f a]⟩
  · rw [m3 i (by omega), s2, div1Q]
  · rw [s3, divQ]
    rfl
end RRJ
