/-! THE CLASS'S GROUND -/
abbrev cGr : Nat := 3
/-- a truth as the machine has it -/
def b2 (p : Prop) [Decidable p] : Int := if p then 1 else 0
theorem b2_t {p : Prop} [Decidable p] (h : p) : b2 p = 1 := if_pos h
theorem b2_f {p : Prop} [Decidable p] (h : ¬ p) : b2 p = 0 := if_neg h
theorem b2_in (p : Prop) [Decidable p] : 0 ≤ b2 p ∧ b2 p ≤ 1 := by unfold b2; split <;> decide
/-- one cell set -/
theorem fr_set1 {h : am_H} {a : Nat} {c : va_E} : fr [a] h (h.set a c) := ⟨by simp, fun i hi => am_set_n (fun q => hi (by simp [q]))⟩
/-- the ground at g: n points -/
def isG (h : am_H) (g n : Nat) (off lev : Nat → Int) : Prop := h[g]? = some (.inr (cGr, [.ref (g + 1), .ref (g + 2), .int (iI n)])) ∧ h[g + 1]? = some (am_ia 12 off) ∧ h[g + 2]? = some (am_ia 12 lev)
def okG (n : Nat) (off lev : Nat → Int) : Prop := n ≤ 12 ∧ (∀ i, -100000 ≤ off i ∧ off i ≤ 100000) ∧ (∀ i, -100000 ≤ lev i ∧ lev i ≤ 100000) ∧ (∀ i j, i < j → j < n → off i < off j)
theorem isG.kept {h h' : am_H} {g n : Nat} {off lev : Nat → Int} {S : List Nat} (w : isG h g n off lev) (e : fr S h h') (hS : ∀ i ∈ S, i < g ∨ g + 2 < i) : isG h' g n off lev :=
  ⟨by rw [e.2 g (fun q => by have := hS _ q; omega)]; exact w.1, by rw [e.2 (g + 1) (fun q => by have := hS _ q; omega)]; exact w.2.1, by rw [e.2 (g + 2) (fun q => by have := hS _ q; omega)]; exact w.2.2⟩
/-- how many points are not beyond o, looked for from the i-th of m on -/
def gkF (off : Nat → Int) (o : Int) : Nat → Nat → Nat
  | 0, i => i
  | m + 1, i => if off i ≤ o then gkF off o m (i + 1) else i
def gk (n : Nat) (off : Nat → Int) (o : Int) : Nat := gkF off o n 0
theorem gkF_spec {off : Nat → Int} {o : Int} : ∀ (m i : Nat), i ≤ gkF off o m i ∧ gkF off o m i ≤ i + m ∧ (∀ j, i ≤ j → j < gkF off o m i → off j ≤ o) ∧ (gkF off o m i < i + m → o < off (gkF off o m i))
  | 0, i => ⟨Nat.le_refl _, Nat.le_refl _, fun j a b => by simp only [gkF] at b; omega, fun q => by simp only [gkF] at q; omega⟩
  | m + 1, i => by
    unfold gkF
    by_cases c : off i ≤ o
    · rw [if_pos c]
      obtain ⟨a1, a2, a3, a4⟩ := gkF_spec (off := off) (o := o) m (i + 1)
      refine ⟨by omega, by omega, fun j h1 h2 => ?_, fun q => a4 (by omega)⟩
      by_cases e : j = i
      · subst e; exact c
      · exact a3 j (by omega) h2
    · rw [if_neg c]
      exact ⟨Nat.le_refl _, by omega, fun j h1 h2 => by omega, fun _ => by omega⟩
theorem gk_spec (n : Nat) (off : Nat → Int) (o : Int) : gk n off o ≤ n ∧ (∀ j, j < gk n off o → off j ≤ o) ∧ (gk n off o < n → o < off (gk n off o)) := by
  have := gkF_spec (off := off) (o := o) n 0
  unfold gk
  refine ⟨by omega, fun j h => this.2.2.1 j (by omega) h, fun h => this.2.2.2 (by omega)⟩
/-- the ground's level at o: gU over gL -/
def gL (n : Nat) (off : Nat → Int) (o : Int) : Int := if 0 < gk n off o ∧ gk n off o < n then off (gk n off o) - off (gk n off o - 1) else 1
def gU (n : Nat) (off lev : Nat → Int) (o : Int) : Int := if n = 0 then 0 else if gk n off o = 0 then lev 0 else if n ≤ gk n off o then lev (gk n off o - 1) else lev (gk n off o - 1) * (off (gk n off o) - off (gk n off o - 1)) + (lev (gk n off o) - lev (gk n off o - 1)) * (o - off (gk n off o - 1))
theorem gL_in {n : Nat} {off lev : Nat → Int} {o : Int} (ok : okG n off lev) : 1 ≤ gL n off o ∧ gL n off o ≤ 200000 := by
  have s := gk_spec n off o
  unfold gL
  split
  · rename_i c
    have a1 := ok.2.2.2 (gk n off o - 1) (gk n off o) (by omega) c.2
    have a2 := ok.2.1 (gk n off o)
    have a3 := ok.2.1 (gk n off o - 1)
    omega
  · omega
/-- the next point farther out than pl on the side sg, of the first i; -1 if there is none -/
def gN (off : Nat → Int) (sg pl : Int) : Nat → Int
  | 0 => -1
  | i + 1 => if pl < sg * off i ∧ (gN off sg pl i < 0 ∨ sg * off i < sg * off (gN off sg pl i).toNat) then (i : Int) else gN off sg pl i
theorem gN_in (off : Nat → Int) (sg pl : Int) : ∀ i : Nat, -1 ≤ gN off sg pl i ∧ gN off sg pl i < i
  | 0 => by simp [gN]
  | i + 1 => by
    have := gN_in off sg pl i
    unfold gN
    split <;> omega
section GRD
variable {X : Nat × (Nat → Int32)}
theorem wp_within {d : Nat} {h : am_H} {x lo hi : Int} (hx : -2147483648 ≤ x ∧ x ≤ 2147483647) (hlo : -2147483648 ≤ lo ∧ lo ≤ 2147483647) (hhi : -2147483648 ≤ hi ∧ hi ≤ 2147483647) :
    am_c X (d + 1) 48 [.int (iI x), .int (iI lo), .int (iI hi)] h (fun r h' => r = some (.int (iI (b2 (lo ≤ x ∧ x ≤ hi)))) ∧ h' = h) := by
  refine am_c.of (Nat.le_of_ble_eq_true rfl) ?_
  show am_w _ _ _ (_, [_, _, _], _, _) _
  refine wr_iload_n rfl rfl rfl ?_
  refine wr_iload_n rfl rfl rfl ?_
  refine wr_icmp_lt rfl rfl rfl (by omega) (by omega) (fun c2 => ?_) (fun c2 => ?_)
  ·
    refine wr_iconst rfl rfl ?_
    refine wr_zret rfl rfl (by decide) ?_
    refine ⟨?_, rfl⟩
    first | rw [b2_t (by omega)] | rw [b2_f (by omega)]
  ·
    refine wr_iload_n rfl rfl rfl ?_
    refine wr_iload_n rfl rfl rfl ?_
    refine wr_icmp_gt rfl rfl rfl (by omega) (by omega) (fun c7 => ?_) (fun c7 => ?_)
    ·
      refine wr_iconst rfl rfl ?_
      refine wr_zret rfl rfl (by decide) ?_
      refine ⟨?_, rfl⟩
      first | rw [b2_t (by omega)] | rw [b2_f (by omega)]
    ·
      refine wr_iconst rfl rfl ?_
      refine wr_goto rfl rfl ?_
      refine wr_zret rfl rfl (by decide) ?_
      refine ⟨?_, rfl⟩
      first | rw [b2_t (by omega)] | rw [b2_f (by omega)]
theorem wp_isSide {d : Nat} {h : am_H} {x : Int} (hx : -2147483648 ≤ x ∧ x ≤ 2147483647) :
    am_c X (d + 1) 53 [.int (iI x)] h (fun r h' => r = some (.int (iI (b2 (x = -1 ∨ x = 1)))) ∧ h' = h) := by
  refine am_c.of (Nat.le_of_ble_eq_true rfl) ?_
  show am_w _ _ _ (_, [_], _, _) _
  refine wr_iload_n rfl rfl rfl ?_
  refine wr_iconst rfl rfl ?_
  refine wr_icmp_eq rfl rfl rfl (by omega) (by omega) (fun c2 => ?_) (fun c2 => ?_)
  ·
    refine wr_iconst rfl rfl ?_
    refine wr_goto rfl rfl ?_
    refine wr_zret rfl rfl (by decide) ?_
    refine ⟨?_, rfl⟩
    first | rw [b2_t (by omega)] | rw [b2_f (by omega)]
  ·
    refine wr_iload_n rfl rfl rfl ?_
    refine wr_iconst rfl rfl ?_
    refine wr_icmp_ne rfl rfl rfl (by omega) (by omega) (fun c7 => ?_) (fun c7 => ?_)
    ·
      refine wr_iconst rfl rfl ?_
      refine wr_zret rfl rfl (by decide) ?_
      refine ⟨?_, rfl⟩
      first | rw [b2_t (by omega)] | rw [b2_f (by omega)]
    ·
      refine wr_iconst rfl rfl ?_
      refine wr_goto rfl rfl ?_
      refine wr_zret rfl rfl (by decide) ?_
      refine ⟨?_, rfl⟩
      first | rw [b2_t (by omega)] | rw [b2_f (by omega)]
theorem wp_gempty {d g n : Nat} {h : am_H} {off lev : Nat → Int} (hG : isG h g n off lev) :
    am_c X (d + 1) 50 [.ref g] h (fun r h' => r = none ∧ isG h' g 0 off lev ∧ fr [g] h h') := by
  obtain ⟨c0, c1, c2⟩ := id hG
  refine am_c.of (Nat.le_of_ble_eq_true rfl) ?_
  show am_w _ _ _ (_, [_], _, _) _
  refine wr_aload_n rfl rfl rfl ?_
  refine wr_iconst rfl rfl ?_
  refine wr_putI (ci := 3) (f := 2) (fs' := [_, _, _]) rfl rfl rfl (by assumption) rfl rfl rfl (fun h1 e1 => ?_)
  refine wr_vret rfl rfl ?_
  subst e1
  exact ⟨rfl, ⟨am_set_s c0, by rw [am_set_n (by omega)]; exact c1, by rw [am_set_n (by omega)]; exact c2⟩, fr_set1⟩
def gAdd (n : Nat) (off : Nat → Int) (o l : Int) : Prop := (-100000 ≤ o ∧ o ≤ 100000) ∧ (-100000 ≤ l ∧ l ≤ 100000) ∧ n < 12 ∧ (n = 0 ∨ off (n - 1) < o)
theorem okG.add {n : Nat} {off lev : Nat → Int} {o l : Int} (ok : okG n off lev) (c : gAdd n off o l) : okG (n + 1) (updI off n o) (updI lev n l) := by
  obtain ⟨c1, c2, c3, c4⟩ := c
  obtain ⟨k1, k2, k3, k4⟩ := ok
  refine ⟨by omega, fun i => ?_, fun i => ?_, fun i j h1 h2 => ?_⟩
  · by_cases e : i = n
    · rw [e, updI_s]; exact c1
    · rw [updI_n e]; exact k2 i
  · by_cases e : i = n
    · rw [e, updI_s]; exact c2
    · rw [updI_n e]; exact k3 i
  · by_cases e : j = n
    · rw [e, updI_s, updI_n (by omega)]
      by_cases e2 : i = n - 1
      · rw [e2]; omega
      · have := k4 i (n - 1) (by omega) (by omega)
        omega
    · rw [updI_n e, updI_n (by omega)]
      exact k4 i j h1 (by omega)
theorem wp_gadd {d g n : Nat} {h : am_H} {off lev : Nat → Int} {o l : Int} (hG : isG h g n off lev) (ok : okG n off lev) (ho : -2147483648 ≤ o ∧ o ≤ 2147483647) (hl : -2147483648 ≤ l ∧ l ≤ 2147483647) :
    am_c X (d + 2) 47 [.ref g, .int (iI o), .int (iI l)] h (fun r h' => (gAdd n off o l ∧ r = some (.int (iI 1)) ∧ isG h' g (n + 1) (updI off n o) (updI lev n l) ∧ fr [g, g + 1, g + 2] h h') ∨ (¬ gAdd n off o l ∧ r = some (.int (iI 0)) ∧ h' = h)) := by
  obtain ⟨c0, c1, c2⟩ := id hG
  have n12 := ok.1
  have hb := ok.2.1 (n - 1)
  have et : 0 < n → ((n : Int) - 1).toNat = n - 1 := by omega
  have J : (-100000 ≤ o ∧ o ≤ 100000) → (-100000 ≤ l ∧ l ≤ 100000) → n < 12 → (n = 0 ∨ off (n - 1) < o) → am_w X (d + 1) 47 (57, [.ref g, .int (iI o), .int (iI l)], [], h) (fun r h' => (gAdd n off o l ∧ r = some (.int (iI 1)) ∧ isG h' g (n + 1) (updI off n o) (updI lev n l) ∧ fr [g, g + 1, g + 2] h h') ∨ (¬ gAdd n off o l ∧ r = some (.int (iI 0)) ∧ h' = h)) := by
    intro a1 a2 a3 a4
    refine wr_aload_n rfl rfl rfl ?_
    refine wr_get (ci := 3) (f := 0) rfl rfl rfl (by assumption) rfl ?_
    refine wr_aload_n rfl rfl rfl ?_
    refine wr_get (ci := 3) (f := 2) rfl rfl rfl (by assumption) rfl ?_
    refine wr_iload_n rfl rfl rfl ?_
    refine wr_iast rfl rfl (by assumption) (by omega) (by omega) (fun h1 e1 => ?_)
    have d0 : h1[g]? = some _ := (by rw [e1, am_set_n (by omega)]; exact c0)
    have d1 : h1[g + 1]? = some _ := (by rw [e1]; exact am_set_s c1)
    have d2 : h1[g + 2]? = some _ := (by rw [e1, am_set_n (by omega)]; exact c2)
    have f1 : fr [g + 1] h h1 := e1 ▸ fr_set1
    clear e1
    refine wr_aload_n rfl rfl rfl ?_
    refine wr_get (ci := 3) (f := 1) rfl rfl rfl (by assumption) rfl ?_
    refine wr_aload_n rfl rfl rfl ?_
    refine wr_get (ci := 3) (f := 2) rfl rfl rfl (by assumption) rfl ?_
    refine wr_iload_n rfl rfl rfl ?_
    refine wr_iast rfl rfl (by assumption) (by omega) (by omega) (fun h2 e2 => ?_)
    have i0 : h2[g]? = some _ := (by rw [e2, am_set_n (by omega)]; exact d0)
    have i1 : h2[g + 1]? = some _ := (by rw [e2, am_set_n (by omega)]; exact d1)
    have i2 : h2[g + 2]? = some _ := (by rw [e2]; exact am_set_s d2)
    have f2 : fr [g + 2] h1 h2 := e2 ▸ fr_set1
    clear e2
    refine wr_aload_n rfl rfl rfl ?_
    refine wr_dup rfl rfl ?_
    refine wr_get (ci := 3) (f := 2) rfl rfl rfl (by assumption) rfl ?_
    refine wr_iconst rfl rfl ?_
    refine wr_iadd rfl rfl ?_
    refine wr_putI (ci := 3) (f := 2) (fs' := [_, _, _]) rfl rfl rfl (by assumption) rfl rfl rfl (fun h3 e3 => ?_)
    have f3 : fr [g] h2 h3 := e3 ▸ fr_set1
    refine wr_iconst rfl rfl ?_
    refine wr_zret rfl rfl (by decide) ?_
    refine Or.inl ⟨⟨a1, a2, a3, a4⟩, rfl, ⟨?_, ?_, ?_⟩, ?_⟩
    · rw [e3]; exact am_set_s i0
    · rw [e3, am_set_n (by omega), i1, show ((n : Int)).toNat = n by omega]
    · rw [e3, am_set_n (by omega), i2, show ((n : Int)).toNat = n by omega]
    · exact fr_tr (fr_tr (U := [g, g + 1, g + 2]) f1 f2 (fun i hi => by simp at hi ⊢; omega) (fun i hi => by simp at hi ⊢; omega)) f3 (fun i hi => hi) (fun i hi => by simp at hi ⊢; omega)
  have w1 := b2_in (-100000 ≤ o ∧ o ≤ 100000)
  have w2 := b2_in (-100000 ≤ l ∧ l ≤ 100000)
  have v1 : b2 (-100000 ≤ o ∧ o ≤ 100000) = 0 → ¬ (-100000 ≤ o ∧ o ≤ 100000) := fun e q => by rw [b2_t q] at e; omega
  have v2 : b2 (-100000 ≤ l ∧ l ≤ 100000) = 0 → ¬ (-100000 ≤ l ∧ l ≤ 100000) := fun e q => by rw [b2_t q] at e; omega
  have u1 : ¬ b2 (-100000 ≤ o ∧ o ≤ 100000) = 0 → (-100000 ≤ o ∧ o ≤ 100000) := fun e => Decidable.byContradiction fun q => e (b2_f q)
  have u2 : ¬ b2 (-100000 ≤ l ∧ l ≤ 100000) = 0 → (-100000 ≤ l ∧ l ≤ 100000) := fun e => Decidable.byContradiction fun q => e (b2_f q)
  refine am_c.of (Nat.le_of_ble_eq_true rfl) ?_
  show am_w _ _ _ (_, [_, _, _], _, _) _
  refine wr_iload_n rfl rfl rfl ?_
  refine wr_ldc (z := -100000) rfl rfl rfl (by decide) ?_
  refine wr_ldc (z := 100000) rfl rfl rfl (by decide) ?_
  refine wr_cs3 (k' := 48) rfl rfl rfl rfl rfl (wp_within ho (by decide) (by decide)) (fun r h2 q => ?_)
  obtain ⟨rfl, hh⟩ := q
  rw [hh]
  clear hh h2
  dsimp only [Option.toList, List.cons_append, List.nil_append]
  refine wr_if_eq rfl rfl rfl (by omega) (fun c8 => ?_) (fun c8 => ?_)
  ·
    refine wr_iconst rfl rfl ?_
    refine wr_zret rfl rfl (by decide) ?_
    first | exact J (by omega) (by omega) (by omega) (by omega) | exact Or.inr ⟨fun q => by obtain ⟨q1, q2, q3, q4⟩ := q; omega, rfl, rfl⟩
  ·
    refine wr_iload_n rfl rfl rfl ?_
    refine wr_ldc (z := -100000) rfl rfl rfl (by decide) ?_
    refine wr_ldc (z := 100000) rfl rfl rfl (by decide) ?_
    refine wr_cs3 (k' := 48) rfl rfl rfl rfl rfl (wp_within hl (by decide) (by decide)) (fun r h2 q => ?_)
    obtain ⟨rfl, hh⟩ := q
    rw [hh]
    clear hh h2
    dsimp only [Option.toList, List.cons_append, List.nil_append]
    refine wr_if_ne rfl rfl rfl (by omega) (fun c19 => ?_) (fun c19 => ?_)
    ·
      refine wr_aload_n rfl rfl rfl ?_
      refine wr_get (ci := 3) (f := 2) rfl rfl rfl (by assumption) rfl ?_
      refine wr_bipush rfl rfl (by decide) ?_
      refine wr_icmp_ge rfl rfl rfl (by omega) (by omega) (fun c30 => ?_) (fun c30 => ?_)
      ·
        refine wr_iconst rfl rfl ?_
        refine wr_zret rfl rfl (by decide) ?_
        first | exact J (by omega) (by omega) (by omega) (by omega) | exact Or.inr ⟨fun q => by obtain ⟨q1, q2, q3, q4⟩ := q; omega, rfl, rfl⟩
      ·
        refine wr_aload_n rfl rfl rfl ?_
        refine wr_get (ci := 3) (f := 2) rfl rfl rfl (by assumption) rfl ?_
        refine wr_if_le rfl rfl rfl (by omega) (fun c37 => ?_) (fun c37 => ?_)
        ·
          first | exact J (by omega) (by omega) (by omega) (by omega) | exact Or.inr ⟨fun q => by obtain ⟨q1, q2, q3, q4⟩ := q; omega, rfl, rfl⟩
        ·
          refine wr_iload_n rfl rfl rfl ?_
          refine wr_aload_n rfl rfl rfl ?_
          refine wr_get (ci := 3) (f := 0) rfl rfl rfl (by assumption) rfl ?_
          refine wr_aload_n rfl rfl rfl ?_
          refine wr_get (ci := 3) (f := 2) rfl rfl rfl (by assumption) rfl ?_
          refine wr_iconst rfl rfl ?_
          refine wr_isub rfl rfl ?_
          refine wr_iald rfl rfl (by assumption) (by omega) (by omega) ?_
          rw [et (by omega)]
          refine wr_icmp_gt rfl rfl rfl (by omega) (by omega) (fun c52 => ?_) (fun c52 => ?_)
          ·
            first | exact J (by omega) (by omega) (by omega) (by omega) | exact Or.inr ⟨fun q => by obtain ⟨q1, q2, q3, q4⟩ := q; omega, rfl, rfl⟩
          ·
            refine wr_iconst rfl rfl ?_
            refine wr_zret rfl rfl (by decide) ?_
            first | exact J (by omega) (by omega) (by omega) (by omega) | exact Or.inr ⟨fun q => by obtain ⟨q1, q2, q3, q4⟩ := q; omega, rfl, rfl⟩
    ·
      refine wr_iconst rfl rfl ?_
      refine wr_zret rfl rfl (by decide) ?_
      first | exact J (by omega) (by omega) (by omega) (by omega) | exact Or.inr ⟨fun q => by obtain ⟨q1, q2, q3, q4⟩ := q; omega, rfl, rfl⟩
theorem wp_gcopy {d g n g2 n2 : Nat} {h : am_H} {off lev off2 lev2 : Nat → Int} (hG : isG h g n off lev) (hG2 : isG h g2 n2 off2 lev2) (hne : g + 2 < g2 ∨ g2 + 2 < g) :
    am_c X (d + 1) 55 [.ref g, .ref g2] h (fun r h' => r = none ∧ (∃ o1 l1, isG h' g n2 o1 l1 ∧ (∀ i, i < 12 → o1 i = off2 i) ∧ (∀ i, i < 12 → l1 i = lev2 i)) ∧ fr [g, g + 1, g + 2] h h') := by
  obtain ⟨c0, c1, c2⟩ := id hG
  obtain ⟨b0, b1, b2⟩ := id hG2
  refine am_c.of (Nat.le_of_ble_eq_true rfl) ?_
  show am_w _ _ _ (_, [_, _, _], _, _) _
  refine wr_aload_n rfl rfl rfl ?_
  refine wr_aload_n rfl rfl rfl ?_
  refine wr_get (ci := 3) (f := 2) rfl rfl rfl (by assumption) rfl ?_
  refine wr_putI (ci := 3) (f := 2) (fs' := [_, _, _]) rfl rfl rfl (by assumption) rfl rfl rfl (fun h1 e1 => ?_)
  have d0 : h1[g]? = some _ := (by rw [e1]; exact am_set_s c0)
  have d1 : h1[g + 1]? = some _ := (by rw [e1, am_set_n (by omega)]; exact c1)
  have d2 : h1[g + 2]? = some _ := (by rw [e1, am_set_n (by omega)]; exact c2)
  have f1 : fr [g, g + 1, g + 2] h h1 := fr_wk (e1 ▸ fr_set1) (fun i hi => by simp at hi ⊢; omega)
  have L : ∀ (m i : Nat) (h1 : am_H) (o1 l1 : Nat → Int), i + m = 12 → fr [g, g + 1, g + 2] h h1 → h1[g]? = some (.inr (cGr, [.ref (g + 1), .ref (g + 2), .int (iI n2)])) → h1[g + 1]? = some (am_ia 12 o1) → h1[g + 2]? = some (am_ia 12 l1) → (∀ j, j < i → o1 j = off2 j ∧ l1 j = lev2 j) → am_w X d 55 (10, [.ref g, .ref g2, .int (iI i)], [], h1) (fun r h' => r = none ∧ (∃ o1 l1, isG h' g n2 o1 l1 ∧ (∀ i, i < 12 → o1 i = off2 i) ∧ (∀ i, i < 12 → l1 i = lev2 i)) ∧ fr [g, g + 1, g + 2] h h') := by
    intro m
    induction m with
    | zero =>
      intro i h1 o1 l1 hi f d0 d1 d2 hj
      refine wr_iload_n rfl rfl rfl ?_
      refine wr_bipush rfl rfl (by decide) ?_
      refine wr_icmp_ge rfl rfl rfl (by omega) (by omega) (fun c13 => ?_) (fun c13 => ?_)
      ·
        refine wr_vret rfl rfl ?_
        exact ⟨rfl, ⟨o1, l1, ⟨d0, d1, d2⟩, fun j h => (hj j (by omega)).1, fun j h => (hj j (by omega)).2⟩, f⟩
      · exfalso; omega
    | succ m ih =>
      intro i h1 o1 l1 hi f d0 d1 d2 hj
      have i0 : h1[g2]? = some _ := (f.2 g2 (by simp; omega)).trans b0
      have i1 : h1[g2 + 1]? = some _ := (f.2 (g2 + 1) (by simp; omega)).trans b1
      have i2 : h1[g2 + 2]? = some _ := (f.2 (g2 + 2) (by simp; omega)).trans b2
      refine wr_iload_n rfl rfl rfl ?_
      refine wr_bipush rfl rfl (by decide) ?_
      refine wr_icmp_ge rfl rfl rfl (by omega) (by omega) (fun c13 => ?_) (fun c13 => ?_)
      · exfalso; omega
      ·
        refine wr_aload_n rfl rfl rfl ?_
        refine wr_get (ci := 3) (f := 0) rfl rfl rfl (by assumption) rfl ?_
        refine wr_iload_n rfl rfl rfl ?_
        refine wr_aload_n rfl rfl rfl ?_
        refine wr_get (ci := 3) (f := 0) rfl rfl rfl (by assumption) rfl ?_
        refine wr_iload_n rfl rfl rfl ?_
        refine wr_iald rfl rfl (by assumption) (by omega) (by omega) ?_
        refine wr_iast rfl rfl d1 (by omega) (by omega) (fun h2 e2 => ?_)
        have k0 : h2[g]? = some _ := (by rw [e2, am_set_n (by omega)]; exact d0)
        have k1 : h2[g + 1]? = some _ := (by rw [e2]; exact am_set_s d1)
        have k2 : h2[g + 2]? = some _ := (by rw [e2, am_set_n (by omega)]; exact d2)
        have j0 : h2[g2]? = some _ := (by rw [e2, am_set_n (by omega)]; exact i0)
        have j2 : h2[g2 + 2]? = some _ := (by rw [e2, am_set_n (by omega)]; exact i2)
        have f2 : fr [g + 1] h1 h2 := e2 ▸ fr_set1
        clear e2
        refine wr_aload_n rfl rfl rfl ?_
        refine wr_get (ci := 3) (f := 1) rfl rfl rfl (by assumption) rfl ?_
        refine wr_iload_n rfl rfl rfl ?_
        refine wr_aload_n rfl rfl rfl ?_
        refine wr_get (ci := 3) (f := 1) rfl rfl rfl (by assumption) rfl ?_
        refine wr_iload_n rfl rfl rfl ?_
        refine wr_iald rfl rfl (by assumption) (by omega) (by omega) ?_
        refine wr_iast rfl rfl k2 (by omega) (by omega) (fun h3 e3 => ?_)
        have f3 : fr [g + 2] h2 h3 := e3 ▸ fr_set1
        refine wr_iinc (ls' := [_, _, _]) rfl rfl rfl rfl ?_
        refine wr_goto rfl rfl ?_
        rw [show (i : Int) + 1 = ((i + 1 : Nat) : Int) by omega]
        refine ih (i + 1) h3 (updI o1 ((i : Int)).toNat _) (updI l1 ((i : Int)).toNat _) (by omega) (fr_tr (fr_tr (U := [g, g + 1, g + 2]) f f2 (fun i hi => hi) (fun i hi => by simp at hi ⊢; omega)) f3 (fun i hi => hi) (fun i hi => by simp at hi ⊢; omega)) (by rw [e3, am_set_n (by omega)]; exact k0) (by rw [e3, am_set_n (by omega)]; exact k1) (by rw [e3]; exact am_set_s k2) (fun j hj' => ?_)
        rw [show ((i : Int)).toNat = i by omega]
        by_cases e : j = i
        · subst e; rw [updI_s, updI_s]; exact ⟨rfl, rfl⟩
        · rw [updI_n e, updI_n e]; exact hj j (by omega)
  clear e1
  refine wr_iconst rfl rfl ?_
  refine wr_istore_n (ls' := [_, _, _]) rfl rfl (Nat.le_of_ble_eq_true rfl) rfl ?_
  exact L 12 0 h1 off lev (by omega) f1 d0 d1 d2 (fun j hj => by omega)
theorem wp_gk {d g n : Nat} {h : am_H} {off lev : Nat → Int} {o : Int} (hG : isG h g n off lev) (ok : okG n off lev) (ho : -9223372036854775808 ≤ o ∧ o ≤ 9223372036854775807) :
    am_c X (d + 1) 70 [.ref g, .long (lI o)] h (fun r h' => r = some (.int (iI (gk n off o))) ∧ h' = h) := by
  obtain ⟨c0, c1, c2⟩ := id hG
  have n12 := ok.1
  have L : ∀ (m i : Nat), i + m = n → gkF off o m i = gk n off o → am_w X d 70 (5, [.ref g, .long (lI o), am_U, .int (iI i), .int (iI i)], [], h) (fun r h' => r = some (.int (iI (gk n off o))) ∧ h' = h) := by
    intro m
    induction m with
    | zero =>
      intro i hi e
      refine wr_iload rfl rfl rfl ?_
      refine wr_aload_n rfl rfl rfl ?_
      refine wr_get (ci := 3) (f := 2) rfl rfl rfl (by assumption) rfl ?_
      refine wr_icmp_ge rfl rfl rfl (by omega) (by omega) (fun c11 => ?_) (fun c11 => ?_)
      ·
        refine wr_iload_n rfl rfl rfl ?_
        refine wr_iret rfl rfl ?_
        exact ⟨by rw [← e]; rfl, rfl⟩
      · exfalso; omega
    | succ m ih =>
      intro i hi e
      have hb := ok.2.1 i
      have et : ((i : Int)).toNat = i := by omega
      refine wr_iload rfl rfl rfl ?_
      refine wr_aload_n rfl rfl rfl ?_
      refine wr_get (ci := 3) (f := 2) rfl rfl rfl (by assumption) rfl ?_
      refine wr_icmp_ge rfl rfl rfl (by omega) (by omega) (fun c11 => ?_) (fun c11 => ?_)
      · exfalso; omega
      ·
        refine wr_aload_n rfl rfl rfl ?_
        refine wr_get (ci := 3) (f := 0) rfl rfl rfl (by assumption) rfl ?_
        refine wr_iload rfl rfl rfl ?_
        refine wr_iald rfl rfl (by assumption) (by omega) (by omega) ?_
        rw [et]
        refine wr_i2l rfl rfl (by omega) ?_
        refine wr_lload_n rfl rfl rfl ?_
        refine wr_l_gt rfl rfl rfl rfl rfl (by omega) (by omega) (fun c23 => ?_) (fun c23 => ?_)
        ·
          refine wr_iload_n rfl rfl rfl ?_
          refine wr_iret rfl rfl ?_
          refine ⟨?_, rfl⟩
          rw [← e]
          unfold gkF
          rw [if_neg (by omega)]
        ·
          refine wr_iinc (ls' := [_, _, _, _, _]) rfl rfl rfl rfl ?_
          refine wr_iinc (ls' := [_, _, _, _, _]) rfl rfl rfl rfl ?_
          refine wr_goto rfl rfl ?_
          rw [show (i : Int) + 1 = ((i + 1 : Nat) : Int) by omega]
          refine ih (i + 1) (by omega) ?_
          rw [← e, gkF, if_pos (by omega)]
  refine am_c.of (Nat.le_of_ble_eq_true rfl) ?_
  show am_w _ _ _ (_, [_, _, _, _, _], _, _) _
  refine wr_iconst rfl rfl ?_
  refine wr_istore_n (ls' := [_, _, _, _, _]) rfl rfl (Nat.le_of_ble_eq_true rfl) rfl ?_
  refine wr_iconst rfl rfl ?_
  refine wr_istore (ls' := [_, _, _, _, _]) rfl rfl (Nat.le_of_ble_eq_true rfl) rfl ?_
  exact L n 0 (by omega) rfl
theorem wp_gL {d g n : Nat} {h : am_H} {off lev : Nat → Int} {o : Int} (hG : isG h g n off lev) (ok : okG n off lev) (ho : -9223372036854775808 ≤ o ∧ o ≤ 9223372036854775807) :
    am_c X (d + 2) 72 [.ref g, .long (lI o)] h (fun r h' => r = some (.long (lI (gL n off o))) ∧ h' = h) := by
  obtain ⟨c0, c1, c2⟩ := id hG
  have n12 := ok.1
  have kn := (gk_spec n off o).1
  have hb := ok.2.1 (gk n off o)
  have hb2 := ok.2.1 (gk n off o - 1)
  have e1 : ((gk n off o : Nat) : Int).toNat = gk n off o := by omega
  have e2 : (((gk n off o : Nat) : Int) - 1).toNat = gk n off o - 1 := by omega
  refine am_c.of (Nat.le_of_ble_eq_true rfl) ?_
  show am_w _ _ _ (_, [_, _, _, _], _, _) _
  refine wr_aload_n rfl rfl rfl ?_
  refine wr_lload_n rfl rfl rfl ?_
  refine wr_cv1 (k' := 70) (ci := 3) rfl rfl rfl rfl (by assumption) rfl rfl (wp_gk hG ok ho) (fun r h2 q => ?_)
  obtain ⟨rfl, hh⟩ := q
  rw [hh]
  clear hh h2
  dsimp only [Option.toList, List.cons_append, List.nil_append]
  refine wr_istore_n (ls' := [_, _, _, _]) rfl rfl (Nat.le_of_ble_eq_true rfl) rfl ?_
  refine wr_iload_n rfl rfl rfl ?_
  refine wr_if_le rfl rfl rfl (by omega) (fun c7 => ?_) (fun c7 => ?_)
  ·
    refine wr_lconst (z := 1) rfl rfl rfl ?_
    refine wr_lret rfl rfl ?_
    refine ⟨?_, rfl⟩
    unfold gL
    first | rw [if_pos (by omega)] | rw [if_neg (by omega)]
  ·
    refine wr_iload_n rfl rfl rfl ?_
    refine wr_aload_n rfl rfl rfl ?_
    refine wr_get (ci := 3) (f := 2) rfl rfl rfl (by assumption) rfl ?_
    refine wr_icmp_ge rfl rfl rfl (by omega) (by omega) (fun c15 => ?_) (fun c15 => ?_)
    ·
      refine wr_lconst (z := 1) rfl rfl rfl ?_
      refine wr_lret rfl rfl ?_
      refine ⟨?_, rfl⟩
      unfold gL
      first | rw [if_pos (by omega)] | rw [if_neg (by omega)]
    ·
      refine wr_aload_n rfl rfl rfl ?_
      refine wr_get (ci := 3) (f := 0) rfl rfl rfl (by assumption) rfl ?_
      refine wr_iload_n rfl rfl rfl ?_
      refine wr_iald rfl rfl (by assumption) (by omega) (by omega) ?_
      rw [e1]
      refine wr_aload_n rfl rfl rfl ?_
      refine wr_get (ci := 3) (f := 0) rfl rfl rfl (by assumption) rfl ?_
      refine wr_iload_n rfl rfl rfl ?_
      refine wr_iconst rfl rfl ?_
      refine wr_isub rfl rfl ?_
      refine wr_iald rfl rfl (by assumption) (by omega) (by omega) ?_
      rw [e2]
      refine wr_isub rfl rfl ?_
      refine wr_i2l rfl rfl (by omega) ?_
      refine wr_goto rfl rfl ?_
      refine wr_lret rfl rfl ?_
      refine ⟨?_, rfl⟩
      unfold gL
      first | rw [if_pos (by omega)] | rw [if_neg (by omega)]
theorem wp_gU {d g n : Nat} {h : am_H} {off lev : Nat → Int} {o : Int} (hG : isG h g n off lev) (ok : okG n off lev) (ho : -9223372036854775808 ≤ o ∧ o ≤ 9223372036854775807) :
    am_c X (d + 2) 69 [.ref g, .long (lI o)] h (fun r h' => r = some (.long (lI (gU n off lev o))) ∧ h' = h) := by
  obtain ⟨c0, c1, c2⟩ := id hG
  have n12 := ok.1
  have kn := (gk_spec n off o).1
  have hb := ok.2.1 (gk n off o)
  have hb2 := ok.2.1 (gk n off o - 1)
  have hl := ok.2.2.1 (gk n off o)
  have hl2 := ok.2.2.1 (gk n off o - 1)
  have hl0 := ok.2.2.1 0
  have e1 : ((gk n off o : Nat) : Int).toNat = gk n off o := by omega
  have e2 : (((gk n off o : Nat) : Int) - 1).toNat = gk n off o - 1 := by omega
  have e3 : (0 : Int).toNat = 0 := rfl
  refine am_c.of (Nat.le_of_ble_eq_true rfl) ?_
  show am_w _ _ _ (_, [_, _, _, _, _, _], _, _) _
  refine wr_aload_n rfl rfl rfl ?_
  refine wr_get (ci := 3) (f := 2) rfl rfl rfl (by assumption) rfl ?_
  refine wr_if_ne rfl rfl rfl (by omega) (fun c4 => ?_) (fun c4 => ?_)
  ·
    refine wr_aload_n rfl rfl rfl ?_
    refine wr_lload_n rfl rfl rfl ?_
    refine wr_cv1 (k' := 70) (ci := 3) rfl rfl rfl rfl (by assumption) rfl rfl (wp_gk hG ok ho) (fun r h2 q => ?_)
    obtain ⟨rfl, hh⟩ := q
    rw [hh]
    clear hh h2
    dsimp only [Option.toList, List.cons_append, List.nil_append]
    refine wr_istore_n (ls' := [_, _, _, _, _, _]) rfl rfl (Nat.le_of_ble_eq_true rfl) rfl ?_
    refine wr_iload_n rfl rfl rfl ?_
    refine wr_if_ne rfl rfl rfl (by omega) (fun c16 => ?_) (fun c16 => ?_)
    ·
      refine wr_aload_n rfl rfl rfl ?_
      refine wr_get (ci := 3) (f := 1) rfl rfl rfl (by assumption) rfl ?_
      refine wr_iload_n rfl rfl rfl ?_
      refine wr_iconst rfl rfl ?_
      refine wr_isub rfl rfl ?_
      refine wr_iald rfl rfl (by assumption) (by omega) (by omega) ?_
      rw [e2]
      refine wr_i2l rfl rfl (by omega) ?_
      refine wr_lstore (ls' := [_, _, _, _, _, _]) rfl rfl (Nat.le_of_ble_eq_true rfl) rfl ?_
      refine wr_iload_n rfl rfl rfl ?_
      refine wr_aload_n rfl rfl rfl ?_
      refine wr_get (ci := 3) (f := 2) rfl rfl rfl (by assumption) rfl ?_
      refine wr_icmp_lt rfl rfl rfl (by omega) (by omega) (fun c43 => ?_) (fun c43 => ?_)
      ·
        refine wr_lload rfl rfl rfl ?_
        refine wr_aload_n rfl rfl rfl ?_
        refine wr_get (ci := 3) (f := 0) rfl rfl rfl (by assumption) rfl ?_
        refine wr_iload_n rfl rfl rfl ?_
        refine wr_iald rfl rfl (by assumption) (by omega) (by omega) ?_
        rw [e1]
        refine wr_aload_n rfl rfl rfl ?_
        refine wr_get (ci := 3) (f := 0) rfl rfl rfl (by assumption) rfl ?_
        refine wr_iload_n rfl rfl rfl ?_
        refine wr_iconst rfl rfl ?_
        refine wr_isub rfl rfl ?_
        refine wr_iald rfl rfl (by assumption) (by omega) (by omega) ?_
        rw [e2]
        refine wr_isub rfl rfl ?_
        refine wr_i2l rfl rfl (by omega) ?_
        refine wr_lmul rfl rfl ?_
        refine wr_aload_n rfl rfl rfl ?_
        refine wr_get (ci := 3) (f := 1) rfl rfl rfl (by assumption) rfl ?_
        refine wr_iload_n rfl rfl rfl ?_
        refine wr_iald rfl rfl (by assumption) (by omega) (by omega) ?_
        rw [e1]
        refine wr_i2l rfl rfl (by omega) ?_
        refine wr_lload rfl rfl rfl ?_
        refine wr_lsub rfl rfl ?_
        refine wr_lload_n rfl rfl rfl ?_
        refine wr_aload_n rfl rfl rfl ?_
        refine wr_get (ci := 3) (f := 0) rfl rfl rfl (by assumption) rfl ?_
        refine wr_iload_n rfl rfl rfl ?_
        refine wr_iconst rfl rfl ?_
        refine wr_isub rfl rfl ?_
        refine wr_iald rfl rfl (by assumption) (by omega) (by omega) ?_
        rw [e2]
        refine wr_i2l rfl rfl (by omega) ?_
        refine wr_lsub rfl rfl ?_
        refine wr_lmul rfl rfl ?_
        refine wr_ladd rfl rfl ?_
        refine wr_lret rfl rfl ?_
        refine ⟨?_, rfl⟩
        unfold gU
        first | rw [if_pos (by omega)] | rw [if_neg (by omega), if_pos (by omega)] | rw [if_neg (by omega), if_neg (by omega), if_pos (by omega)] | rw [if_neg (by omega), if_neg (by omega), if_neg (by omega)]
      ·
        refine wr_lload rfl rfl rfl ?_
        refine wr_lret rfl rfl ?_
        refine ⟨?_, rfl⟩
        unfold gU
        first | rw [if_pos (by omega)] | rw [if_neg (by omega), if_pos (by omega)] | rw [if_neg (by omega), if_neg (by omega), if_pos (by omega)] | rw [if_neg (by omega), if_neg (by omega), if_neg (by omega)]
    ·
      refine wr_aload_n rfl rfl rfl ?_
      refine wr_get (ci := 3) (f := 1) rfl rfl rfl (by assumption) rfl ?_
      refine wr_iconst rfl rfl ?_
      refine wr_iald rfl rfl (by assumption) (by omega) (by omega) ?_
      rw [e3]
      refine wr_i2l rfl rfl (by omega) ?_
      refine wr_lret rfl rfl ?_
      refine ⟨?_, rfl⟩
      unfold gU
      first | rw [if_pos (by omega)] | rw [if_neg (by omega), if_pos (by omega)] | rw [if_neg (by omega), if_neg (by omega), if_pos (by omega)] | rw [if_neg (by omega), if_neg (by omega), if_neg (by omega)]
  ·
    refine wr_lconst (z := 0) rfl rfl rfl ?_
    refine wr_lret rfl rfl ?_
    refine ⟨?_, rfl⟩
    unfold gU
    first | rw [if_pos (by omega)] | rw [if_neg (by omega), if_pos (by omega)] | rw [if_neg (by omega), if_neg (by omega), if_pos (by omega)] | rw [if_neg (by omega), if_neg (by omega), if_neg (by omega)]
theorem wp_gout {d g n : Nat} {h : am_H} {off lev : Nat → Int} {p sg : Int} (hG : isG h g n off lev) (ok : okG n off lev) (hp : -1 ≤ p ∧ p < n) (hs : sg = 1 ∨ sg = -1) :
    am_c X (d + 1) 83 [.ref g, .int (iI p), .int (iI sg)] h (fun r h' => r = some (.long (lI (if 0 ≤ p then sg * off p.toNat else 0))) ∧ h' = h) := by
  obtain ⟨c0, c1, c2⟩ := id hG
  have n12 := ok.1
  have hb := ok.2.1 p.toNat
  have hm : -100000 ≤ sg * off p.toNat ∧ sg * off p.toNat ≤ 100000 := by rcases hs with rfl | rfl <;> omega
  refine am_c.of (Nat.le_of_ble_eq_true rfl) ?_
  show am_w _ _ _ (_, [_, _, _], _, _) _
  refine wr_iload_n rfl rfl rfl ?_
  refine wr_if_lt rfl rfl rfl (by omega) (fun c1 => ?_) (fun c1 => ?_)
  ·
    refine wr_lconst (z := 0) rfl rfl rfl ?_
    refine wr_lret rfl rfl ?_
    refine ⟨?_, rfl⟩
    first | (exfalso; omega) | rw [if_pos (by omega)] | rw [if_neg (by omega)]
  ·
    refine wr_iload_n rfl rfl rfl ?_
    refine wr_aload_n rfl rfl rfl ?_
    refine wr_get (ci := 3) (f := 2) rfl rfl rfl (by assumption) rfl ?_
    refine wr_icmp_ge rfl rfl rfl (by omega) (by omega) (fun c9 => ?_) (fun c9 => ?_)
    ·
      refine wr_lconst (z := 0) rfl rfl rfl ?_
      refine wr_lret rfl rfl ?_
      refine ⟨?_, rfl⟩
      first | (exfalso; omega) | rw [if_pos (by omega)] | rw [if_neg (by omega)]
    ·
      refine wr_iload_n rfl rfl rfl ?_
      refine wr_aload_n rfl rfl rfl ?_
      refine wr_get (ci := 3) (f := 0) rfl rfl rfl (by assumption) rfl ?_
      refine wr_iload_n rfl rfl rfl ?_
      refine wr_iald rfl rfl (by assumption) (by omega) (by omega) ?_
      refine wr_imul rfl rfl ?_
      refine wr_i2l rfl rfl (by omega) ?_
      refine wr_goto rfl rfl ?_
      refine wr_lret rfl rfl ?_
      refine ⟨?_, rfl⟩
      first | (exfalso; omega) | rw [if_pos (by omega)] | rw [if_neg (by omega)]
theorem wp_glev {d g n : Nat} {h : am_H} {off lev : Nat → Int} {p : Int} (hG : isG h g n off lev) (ok : okG n off lev) (hp : -1 ≤ p ∧ p < n) :
    am_c X (d + 1) 84 [.ref g, .int (iI p)] h (fun r h' => r = some (.long (lI (if 0 ≤ p then lev p.toNat else 0))) ∧ h' = h) := by
  obtain ⟨c0, c1, c2⟩ := id hG
  have n12 := ok.1
  have hb := ok.2.2.1 p.toNat
  refine am_c.of (Nat.le_of_ble_eq_true rfl) ?_
  show am_w _ _ _ (_, [_, _], _, _) _
  refine wr_iload_n rfl rfl rfl ?_
  refine wr_if_lt rfl rfl rfl (by omega) (fun c1 => ?_) (fun c1 => ?_)
  ·
    refine wr_lconst (z := 0) rfl rfl rfl ?_
    refine wr_lret rfl rfl ?_
    refine ⟨?_, rfl⟩
    first | (exfalso; omega) | rw [if_pos (by omega)] | rw [if_neg (by omega)]
  ·
    refine wr_iload_n rfl rfl rfl ?_
    refine wr_aload_n rfl rfl rfl ?_
    refine wr_get (ci := 3) (f := 2) rfl rfl rfl (by assumption) rfl ?_
    refine wr_icmp_ge rfl rfl rfl (by omega) (by omega) (fun c9 => ?_) (fun c9 => ?_)
    ·
      refine wr_lconst (z := 0) rfl rfl rfl ?_
      refine wr_lret rfl rfl ?_
      refine ⟨?_, rfl⟩
      first | (exfalso; omega) | rw [if_pos (by omega)] | rw [if_neg (by omega)]
    ·
      refine wr_aload_n rfl rfl rfl ?_
      refine wr_get (ci := 3) (f := 1) rfl rfl rfl (by assumption) rfl ?_
      refine wr_iload_n rfl rfl rfl ?_
      refine wr_iald rfl rfl (by assumption) (by omega) (by omega) ?_
      refine wr_i2l rfl rfl (by omega) ?_
      refine wr_goto rfl rfl ?_
      refine wr_lret rfl rfl ?_
      refine ⟨?_, rfl⟩
      first | (exfalso; omega) | rw [if_pos (by omega)] | rw [if_neg (by omega)]
theorem wp_gnext {d g n : Nat} {h : am_H} {off lev : Nat → Int} {sg pl : Int} (hG : isG h g n off lev) (ok : okG n off lev) (hs : sg = 1 ∨ sg = -1) (hpl : -9223372036854775808 ≤ pl ∧ pl ≤ 9223372036854775807) :
    am_c X (d + 1) 82 [.ref g, .int (iI sg), .long (lI pl)] h (fun r h' => r = some (.int (iI (gN off sg pl n))) ∧ h' = h) := by
  obtain ⟨c0, c1, c2⟩ := id hG
  have n12 := ok.1
  have sm : ∀ i, -100000 ≤ sg * off i ∧ sg * off i ≤ 100000 := by
    intro i
    have hb := ok.2.1 i
    rcases hs with rfl | rfl <;> omega
  have L : ∀ (m i : Nat), i + m = n → am_w X d 82 (6, [.ref g, .int (iI sg), .long (lI pl), am_U, .int (iI (gN off sg pl i)), .int (iI i), am_U], [], h) (fun r h' => r = some (.int (iI (gN off sg pl n))) ∧ h' = h) := by
    intro m
    induction m with
    | zero =>
      intro i hi
      refine wr_iload rfl rfl rfl ?_
      refine wr_aload_n rfl rfl rfl ?_
      refine wr_get (ci := 3) (f := 2) rfl rfl rfl (by assumption) rfl ?_
      refine wr_icmp_ge rfl rfl rfl (by omega) (by omega) (fun c12 => ?_) (fun c12 => ?_)
      ·
        refine wr_iload rfl rfl rfl ?_
        refine wr_iret rfl rfl ?_
        exact ⟨by rw [show i = n by omega], rfl⟩
      · exfalso; omega
    | succ m ih =>
      intro i hi
      have m1 := sm i
      have gi := gN_in off sg pl i
      have m2 := sm (gN off sg pl i).toNat
      have et : ((i : Int)).toNat = i := by omega
      have I := ih (i + 1) (by omega)
      have N1 : pl < sg * off i ∧ (gN off sg pl i < 0 ∨ sg * off i < sg * off (gN off sg pl i).toNat) → gN off sg pl (i + 1) = i := fun c => by rw [gN, if_pos c]
      have N2 : ¬ (pl < sg * off i ∧ (gN off sg pl i < 0 ∨ sg * off i < sg * off (gN off sg pl i).toNat)) → gN off sg pl (i + 1) = gN off sg pl i := fun c => by rw [gN, if_neg c]
      refine wr_iload rfl rfl rfl ?_
      refine wr_aload_n rfl rfl rfl ?_
      refine wr_get (ci := 3) (f := 2) rfl rfl rfl (by assumption) rfl ?_
      refine wr_icmp_ge rfl rfl rfl (by omega) (by omega) (fun c12 => ?_) (fun c12 => ?_)
      · exfalso; omega
      ·
        refine wr_iload_n rfl rfl rfl ?_
        refine wr_aload_n rfl rfl rfl ?_
        refine wr_get (ci := 3) (f := 0) rfl rfl rfl (by assumption) rfl ?_
        refine wr_iload rfl rfl rfl ?_
        refine wr_iald rfl rfl (by assumption) (by omega) (by omega) ?_
        rw [et]
        refine wr_imul rfl rfl ?_
        refine wr_i2l rfl rfl (by omega) ?_
        refine wr_lload_n rfl rfl rfl ?_
        refine wr_l_le rfl rfl rfl rfl rfl (by omega) (by omega) (fun c26 => ?_) (fun c26 => ?_)
        ·
          refine wr_iconst rfl rfl ?_
          refine wr_istore (ls' := [_, _, _, _, _, _, _]) rfl rfl (Nat.le_of_ble_eq_true rfl) rfl ?_
          refine wr_iload rfl rfl rfl ?_
          refine wr_if_eq rfl rfl rfl (by omega) (fun c39 => ?_) (fun c39 => ?_)
          ·
            refine wr_iinc (ls' := [_, _, _, _, _, _, _]) rfl rfl rfl rfl ?_
            refine wr_goto rfl rfl ?_
            refine am_w.wk (ls' := [_, _, _, _, _, _, am_U]) ⟨Or.inr rfl, Or.inr rfl, Or.inr rfl, Or.inr rfl, Or.inr rfl, Or.inr rfl, Or.inl rfl, trivial⟩ ?_
            rw [show (i : Int) + 1 = ((i + 1 : Nat) : Int) by omega]
            first | (rw [N1 (by omega)] at I; exact I) | (rw [N2 (by omega)] at I; exact I) | (exfalso; omega)
          ·
            refine wr_iload rfl rfl rfl ?_
            refine wr_if_lt rfl rfl rfl (by omega) (fun c44 => ?_) (fun c44 => ?_)
            ·
              refine wr_iload rfl rfl rfl ?_
              refine wr_istore (ls' := [_, _, _, _, _, _, _]) rfl rfl (Nat.le_of_ble_eq_true rfl) rfl ?_
              refine wr_iinc (ls' := [_, _, _, _, _, _, _]) rfl rfl rfl rfl ?_
              refine wr_goto rfl rfl ?_
              refine am_w.wk (ls' := [_, _, _, _, _, _, am_U]) ⟨Or.inr rfl, Or.inr rfl, Or.inr rfl, Or.inr rfl, Or.inr rfl, Or.inr rfl, Or.inl rfl, trivial⟩ ?_
              rw [show (i : Int) + 1 = ((i + 1 : Nat) : Int) by omega]
              first | (rw [N1 (by omega)] at I; exact I) | (rw [N2 (by omega)] at I; exact I) | (exfalso; omega)
            ·
              refine wr_iload_n rfl rfl rfl ?_
              refine wr_aload_n rfl rfl rfl ?_
              refine wr_get (ci := 3) (f := 0) rfl rfl rfl (by assumption) rfl ?_
              refine wr_iload rfl rfl rfl ?_
              refine wr_iald rfl rfl (by assumption) (by omega) (by omega) ?_
              rw [et]
              refine wr_imul rfl rfl ?_
              refine wr_iload_n rfl rfl rfl ?_
              refine wr_aload_n rfl rfl rfl ?_
              refine wr_get (ci := 3) (f := 0) rfl rfl rfl (by assumption) rfl ?_
              refine wr_iload rfl rfl rfl ?_
              refine wr_iald rfl rfl (by assumption) (by omega) (by omega) ?_
              refine wr_imul rfl rfl ?_
              refine wr_icmp_ge rfl rfl rfl (by omega) (by omega) (fun c65 => ?_) (fun c65 => ?_)
              ·
                refine wr_iinc (ls' := [_, _, _, _, _, _, _]) rfl rfl rfl rfl ?_
                refine wr_goto rfl rfl ?_
                refine am_w.wk (ls' := [_, _, _, _, _, _, am_U]) ⟨Or.inr rfl, Or.inr rfl, Or.inr rfl, Or.inr rfl, Or.inr rfl, Or.inr rfl, Or.inl rfl, trivial⟩ ?_
                rw [show (i : Int) + 1 = ((i + 1 : Nat) : Int) by omega]
                first | (rw [N1 (by omega)] at I; exact I) | (rw [N2 (by omega)] at I; exact I) | (exfalso; omega)
              ·
                refine wr_iload rfl rfl rfl ?_
                refine wr_istore (ls' := [_, _, _, _, _, _, _]) rfl rfl (Nat.le_of_ble_eq_true rfl) rfl ?_
                refine wr_iinc (ls' := [_, _, _, _, _, _, _]) rfl rfl rfl rfl ?_
                refine wr_goto rfl rfl ?_
                refine am_w.wk (ls' := [_, _, _, _, _, _, am_U]) ⟨Or.inr rfl, Or.inr rfl, Or.inr rfl, Or.inr rfl, Or.inr rfl, Or.inr rfl, Or.inl rfl, trivial⟩ ?_
                rw [show (i : Int) + 1 = ((i + 1 : Nat) : Int) by omega]
                first | (rw [N1 (by omega)] at I; exact I) | (rw [N2 (by omega)] at I; exact I) | (exfalso; omega)
        ·
          refine wr_iconst rfl rfl ?_
          refine wr_goto rfl rfl ?_
          refine wr_istore (ls' := [_, _, _, _, _, _, _]) rfl rfl (Nat.le_of_ble_eq_true rfl) rfl ?_
          refine wr_iload rfl rfl rfl ?_
          refine wr_if_eq rfl rfl rfl (by omega) (fun c39 => ?_) (fun c39 => ?_)
          ·
            refine wr_iinc (ls' := [_, _, _, _, _, _, _]) rfl rfl rfl rfl ?_
            refine wr_goto rfl rfl ?_
            refine am_w.wk (ls' := [_, _, _, _, _, _, am_U]) ⟨Or.inr rfl, Or.inr rfl, Or.inr rfl, Or.inr rfl, Or.inr rfl, Or.inr rfl, Or.inl rfl, trivial⟩ ?_
            rw [show (i : Int) + 1 = ((i + 1 : Nat) : Int) by omega]
            first | (rw [N1 (by omega)] at I; exact I) | (rw [N2 (by omega)] at I; exact I) | (exfalso; omega)
          ·
            refine wr_iload rfl rfl rfl ?_
            refine wr_if_lt rfl rfl rfl (by omega) (fun c44 => ?_) (fun c44 => ?_)
            ·
              refine wr_iload rfl rfl rfl ?_
              refine wr_istore (ls' := [_, _, _, _, _, _, _]) rfl rfl (Nat.le_of_ble_eq_true rfl) rfl ?_
              refine wr_iinc (ls' := [_, _, _, _, _, _, _]) rfl rfl rfl rfl ?_
              refine wr_goto rfl rfl ?_
              refine am_w.wk (ls' := [_, _, _, _, _, _, am_U]) ⟨Or.inr rfl, Or.inr rfl, Or.inr rfl, Or.inr rfl, Or.inr rfl, Or.inr rfl, Or.inl rfl, trivial⟩ ?_
              rw [show (i : Int) + 1 = ((i + 1 : Nat) : Int) by omega]
              first | (rw [N1 (by omega)] at I; exact I) | (rw [N2 (by omega)] at I; exact I) | (exfalso; omega)
            ·
              refine wr_iload_n rfl rfl rfl ?_
              refine wr_aload_n rfl rfl rfl ?_
              refine wr_get (ci := 3) (f := 0) rfl rfl rfl (by assumption) rfl ?_
              refine wr_iload rfl rfl rfl ?_
              refine wr_iald rfl rfl (by assumption) (by omega) (by omega) ?_
              rw [et]
              refine wr_imul rfl rfl ?_
              refine wr_iload_n rfl rfl rfl ?_
              refine wr_aload_n rfl rfl rfl ?_
              refine wr_get (ci := 3) (f := 0) rfl rfl rfl (by assumption) rfl ?_
              refine wr_iload rfl rfl rfl ?_
              refine wr_iald rfl rfl (by assumption) (by omega) (by omega) ?_
              refine wr_imul rfl rfl ?_
              refine wr_icmp_ge rfl rfl rfl (by omega) (by omega) (fun c65 => ?_) (fun c65 => ?_)
              ·
                refine wr_iinc (ls' := [_, _, _, _, _, _, _]) rfl rfl rfl rfl ?_
                refine wr_goto rfl rfl ?_
                refine am_w.wk (ls' := [_, _, _, _, _, _, am_U]) ⟨Or.inr rfl, Or.inr rfl, Or.inr rfl, Or.inr rfl, Or.inr rfl, Or.inr rfl, Or.inl rfl, trivial⟩ ?_
                rw [show (i : Int) + 1 = ((i + 1 : Nat) : Int) by omega]
                first | (rw [N1 (by omega)] at I; exact I) | (rw [N2 (by omega)] at I; exact I) | (exfalso; omega)
              ·
                refine wr_iload rfl rfl rfl ?_
                refine wr_istore (ls' := [_, _, _, _, _, _, _]) rfl rfl (Nat.le_of_ble_eq_true rfl) rfl ?_
                refine wr_iinc (ls' := [_, _, _, _, _, _, _]) rfl rfl rfl rfl ?_
                refine wr_goto rfl rfl ?_
                refine am_w.wk (ls' := [_, _, _, _, _, _, am_U]) ⟨Or.inr rfl, Or.inr rfl, Or.inr rfl, Or.inr rfl, Or.inr rfl, Or.inr rfl, Or.inl rfl, trivial⟩ ?_
                rw [show (i : Int) + 1 = ((i + 1 : Nat) : Int) by omega]
                first | (rw [N1 (by omega)] at I; exact I) | (rw [N2 (by omega)] at I; exact I) | (exfalso; omega)
  refine am_c.of (Nat.le_of_ble_eq_true rfl) ?_
  show am_w _ _ _ (_, [_, _, _, _, _, _, _], _, _) _
  refine wr_iconst rfl rfl ?_
  refine wr_istore (ls' := [_, _, _, _, _, _, _]) rfl rfl (Nat.le_of_ble_eq_true rfl) rfl ?_
  refine wr_iconst rfl rfl ?_
  refine wr_istore (ls' := [_, _, _, _, _, _, _]) rfl rfl (Nat.le_of_ble_eq_true rfl) rfl ?_
  exact L n 0 (by omega)
end GRD
