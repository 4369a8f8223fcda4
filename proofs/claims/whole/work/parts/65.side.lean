/-! FRAMES BY RANGES; THE CLASS'S SIDES AND SECTION -/
/-- but for the ranges L nothing has changed, none was made -/
def frI (L : List (Nat × Nat)) (h h' : am_H) : Prop := h'.length = h.length ∧ ∀ i, (∀ p ∈ L, i < p.1 ∨ p.2 < i) → h'[i]? = h[i]?
def same (lo hi : Nat) (h h' : am_H) : Prop := ∀ i, lo ≤ i → i ≤ hi → h'[i]? = h[i]?
theorem frI_rf (L : List (Nat × Nat)) (h : am_H) : frI L h h := ⟨rfl, fun _ _ => rfl⟩
theorem frI_tr {L : List (Nat × Nat)} {h h1 h2 : am_H} (a : frI L h h1) (b : frI L h1 h2) : frI L h h2 := ⟨b.1.trans a.1, fun i hi => (b.2 i hi).trans (a.2 i hi)⟩
theorem frI_wk {L M : List (Nat × Nat)} {h h1 : am_H} (a : frI L h h1) (hL : ∀ p ∈ L, ∃ q ∈ M, q.1 ≤ p.1 ∧ p.2 ≤ q.2) : frI M h h1 :=
  ⟨a.1, fun i hi => a.2 i (fun p hp => by obtain ⟨q, hq, h1, h2⟩ := hL p hp; have := hi q hq; omega)⟩
theorem frI_fr {S : List Nat} {M : List (Nat × Nat)} {h h1 : am_H} (a : fr S h h1) (hS : ∀ i ∈ S, ∃ q ∈ M, q.1 ≤ i ∧ i ≤ q.2) : frI M h h1 :=
  ⟨a.1, fun i hi => a.2 i (fun q => by obtain ⟨p, hp, h1, h2⟩ := hS i q; have := hi p hp; omega)⟩
theorem frI_A {s : Nat} {S : List Nat} {M : List (Nat × Nat)} {h h1 : am_H} (a : frA s S h h1) (hs : ∃ q ∈ M, q.1 ≤ s + 1 ∧ s + 22 ≤ q.2) (hS : ∀ i ∈ S, ∃ q ∈ M, q.1 ≤ i ∧ i ≤ q.2) : frI M h h1 :=
  ⟨a.1, fun i hi => a.2 i (by obtain ⟨p, hp, h1, h2⟩ := hs; have := hi p hp; omega) (fun q => by obtain ⟨p, hp, h1, h2⟩ := hS i q; have := hi p hp; omega)⟩
theorem frI.same {L : List (Nat × Nat)} {h h' : am_H} {lo hi : Nat} (a : frI L h h') (c : ∀ p ∈ L, hi < p.1 ∨ p.2 < lo) : same lo hi h h' := fun i h1 h2 => a.2 i (fun p hp => by have := c p hp; omega)
theorem isW.same {h h' : am_H} {t l cap lo hi : Nat} {v : Int} (w : isW h t l cap v) (e : same lo hi h h') (h1 : lo ≤ t ∧ t ≤ hi) (h2 : lo ≤ l ∧ l ≤ hi) : isW h' t l cap v := by
  obtain ⟨g, n, a, b, c⟩ := w
  exact ⟨g, n, by rw [e t h1.1 h1.2]; exact a, by rw [e l h2.1 h2.2]; exact b, c⟩
theorem isF.same {h h' : am_H} {f cap lo hi : Nat} {q : Rat} (w : isF h f cap q) (e : same lo hi h h') (h1 : lo ≤ f ∧ f + 4 ≤ hi) : isF h' f cap q :=
  ⟨by rw [e f (by omega) (by omega)]; exact w.1, w.2.1.same e (by omega) (by omega), w.2.2.same e (by omega) (by omega)⟩
theorem isG.same {h h' : am_H} {g n lo hi : Nat} {off lev : Nat → Int} (w : isG h g n off lev) (e : same lo hi h h') (h1 : lo ≤ g ∧ g + 2 ≤ hi) : isG h' g n off lev :=
  ⟨by rw [e g (by omega) (by omega)]; exact w.1, by rw [e (g + 1) (by omega) (by omega)]; exact w.2.1, by rw [e (g + 2) (by omega) (by omega)]; exact w.2.2⟩
theorem arX.same {h h' : am_H} {s lo hi : Nat} (w : arX h s) (e : same lo hi h h') (h1 : lo ≤ s ∧ s + 22 ≤ hi) : arX h' s := by
  obtain ⟨v, w1, w2⟩ := w
  exact ⟨v, by rw [e s (by omega) (by omega)]; exact w1, fun k hk => (w2 k hk).same e (by omega) (by omega)⟩
abbrev cSd : Nat := 7
abbrev cSe : Nat := 6
/-- the side at b: N its last corner, e whether it has ended -/
def isS (h : am_H) (b : Nat) (sg : Int) (N : Nat) (e : Int) (cd ou hi ri ru : Nat → Int) (eo el : Rat) : Prop :=
  h[b]? = some (.inr (cSd, [.int (iI sg), .ref (b + 1), .ref (b + 2), .ref (b + 3), .ref (b + 4), .ref (b + 5), .int (iI N), .int (iI e), .ref (b + 6), .ref (b + 11)])) ∧ h[b + 1]? = some (am_ia 13 cd) ∧ h[b + 2]? = some (am_la 13 ou) ∧ h[b + 3]? = some (am_la 13 hi) ∧ h[b + 4]? = some (am_la 13 ri) ∧ h[b + 5]? = some (am_la 13 ru) ∧ isF h (b + 6) 16 eo ∧ isF h (b + 11) 16 el
section SID
variable {X : Nat × (Nat → Int32)} {h h' : am_H} {b N : Nat} {sg e : Int} {cd ou hi ri ru : Nat → Int} {eo el : Rat}
theorem isS.same {lo up : Nat} (w : isS h b sg N e cd ou hi ri ru eo el) (q : same lo up h h') (h1 : lo ≤ b ∧ b + 15 ≤ up) : isS h' b sg N e cd ou hi ri ru eo el := by
  obtain ⟨c0, c1, c2, c3, c4, c5, c6, c7⟩ := w
  exact ⟨by rw [q b (by omega) (by omega)]; exact c0, by rw [q (b + 1) (by omega) (by omega)]; exact c1, by rw [q (b + 2) (by omega) (by omega)]; exact c2, by rw [q (b + 3) (by omega) (by omega)]; exact c3, by rw [q (b + 4) (by omega) (by omega)]; exact c4, by rw [q (b + 5) (by omega) (by omega)]; exact c5, c6.same q (by omega), c7.same q (by omega)⟩
theorem same_set {a lo up : Nat} {c : va_E} (hh : a < lo ∨ up < a) : same lo up h (h.set a c) := fun i h1 h2 => am_set_n (by omega)
theorem isS.s0 {N' : Nat} {e' : Int} (w : isS h b sg N e cd ou hi ri ru eo el) : isS (h.set (b + 0) (.inr (cSd, [.int (iI sg), .ref (b + 1), .ref (b + 2), .ref (b + 3), .ref (b + 4), .ref (b + 5), .int (iI N'), .int (iI e'), .ref (b + 6), .ref (b + 11)]))) b sg N' e' cd ou hi ri ru eo el := by
  obtain ⟨c0, c1, c2, c3, c4, c5, c6, c7⟩ := w
  refine ⟨?_, ?_, ?_, ?_, ?_, ?_, c6.same (same_set (by omega)) ⟨Nat.le_refl _, Nat.le_refl _⟩, c7.same (same_set (by omega)) ⟨Nat.le_refl _, Nat.le_refl _⟩⟩ <;> first | exact am_set_s (by assumption) | (rw [am_set_n (by omega)]; assumption)
theorem isS.s1 {g : Nat → Int} (w : isS h b sg N e cd ou hi ri ru eo el) : isS (h.set (b + 1) (am_ia 13 g)) b sg N e g ou hi ri ru eo el := by
  obtain ⟨c0, c1, c2, c3, c4, c5, c6, c7⟩ := w
  refine ⟨?_, ?_, ?_, ?_, ?_, ?_, c6.same (same_set (by omega)) ⟨Nat.le_refl _, Nat.le_refl _⟩, c7.same (same_set (by omega)) ⟨Nat.le_refl _, Nat.le_refl _⟩⟩ <;> first | exact am_set_s (by assumption) | (rw [am_set_n (by omega)]; assumption)
theorem isS.s2 {g : Nat → Int} (w : isS h b sg N e cd ou hi ri ru eo el) : isS (h.set (b + 2) (am_la 13 g)) b sg N e cd g hi ri ru eo el := by
  obtain ⟨c0, c1, c2, c3, c4, c5, c6, c7⟩ := w
  refine ⟨?_, ?_, ?_, ?_, ?_, ?_, c6.same (same_set (by omega)) ⟨Nat.le_refl _, Nat.le_refl _⟩, c7.same (same_set (by omega)) ⟨Nat.le_refl _, Nat.le_refl _⟩⟩ <;> first | exact am_set_s (by assumption) | (rw [am_set_n (by omega)]; assumption)
theorem isS.s3 {g : Nat → Int} (w : isS h b sg N e cd ou hi ri ru eo el) : isS (h.set (b + 3) (am_la 13 g)) b sg N e cd ou g ri ru eo el := by
  obtain ⟨c0, c1, c2, c3, c4, c5, c6, c7⟩ := w
  refine ⟨?_, ?_, ?_, ?_, ?_, ?_, c6.same (same_set (by omega)) ⟨Nat.le_refl _, Nat.le_refl _⟩, c7.same (same_set (by omega)) ⟨Nat.le_refl _, Nat.le_refl _⟩⟩ <;> first | exact am_set_s (by assumption) | (rw [am_set_n (by omega)]; assumption)
theorem isS.s4 {g : Nat → Int} (w : isS h b sg N e cd ou hi ri ru eo el) : isS (h.set (b + 4) (am_la 13 g)) b sg N e cd ou hi g ru eo el := by
  obtain ⟨c0, c1, c2, c3, c4, c5, c6, c7⟩ := w
  refine ⟨?_, ?_, ?_, ?_, ?_, ?_, c6.same (same_set (by omega)) ⟨Nat.le_refl _, Nat.le_refl _⟩, c7.same (same_set (by omega)) ⟨Nat.le_refl _, Nat.le_refl _⟩⟩ <;> first | exact am_set_s (by assumption) | (rw [am_set_n (by omega)]; assumption)
theorem isS.s5 {g : Nat → Int} (w : isS h b sg N e cd ou hi ri ru eo el) : isS (h.set (b + 5) (am_la 13 g)) b sg N e cd ou hi ri g eo el := by
  obtain ⟨c0, c1, c2, c3, c4, c5, c6, c7⟩ := w
  refine ⟨?_, ?_, ?_, ?_, ?_, ?_, c6.same (same_set (by omega)) ⟨Nat.le_refl _, Nat.le_refl _⟩, c7.same (same_set (by omega)) ⟨Nat.le_refl _, Nat.le_refl _⟩⟩ <;> first | exact am_set_s (by assumption) | (rw [am_set_n (by omega)]; assumption)
theorem frI_set {a lo up : Nat} {c : va_E} (hh : lo ≤ a ∧ a ≤ up) : frI [(lo, up)] h (h.set a c) := ⟨by simp, fun i hi => am_set_n (by have := hi (lo, up) (by simp); simp only at this; omega)⟩
theorem wp_sinside {d : Nat} {i : Int} (hI : -2147483648 ≤ i ∧ i ≤ 2147483647) : am_c X (d + 1) 68 [.ref b, .int (iI i)] h (fun r h' => r = some (.int (iI (max 0 (min i 12)))) ∧ h' = h) := by
  refine am_c.of (Nat.le_of_ble_eq_true rfl) ?_
  show am_w _ _ _ (_, [_, _], _, _) _
  refine wr_iconst rfl rfl ?_
  refine wr_iload_n rfl rfl rfl ?_
  refine wr_bipush rfl rfl (by decide) ?_
  refine wr_mmin rfl rfl rfl rfl (by omega) (by omega) ?_
  refine wr_mmax rfl rfl rfl rfl (by omega) (by omega) ?_
  refine wr_iret rfl rfl ?_
  exact ⟨rfl, rfl⟩
theorem wp_scode {d i : Nat} (w : isS h b sg N e cd ou hi ri ru eo el) (hI : i ≤ 12) : am_c X (d + 2) 113 [.ref b, .int (iI i)] h (fun r h' => r = some (.int (iI (cd i))) ∧ h' = h) := by
  obtain ⟨c0, c1, c2, c3, c4, c5, c6, c7⟩ := w
  have ei : max 0 (min (i : Int) 12) = (i : Int) := by omega
  refine am_c.of (Nat.le_of_ble_eq_true rfl) ?_
  show am_w _ _ _ (_, [_, _], _, _) _
  refine wr_aload_n rfl rfl rfl ?_
  refine wr_get (ci := 7) (f := 1) rfl rfl rfl (by assumption) rfl ?_
  refine wr_aload_n rfl rfl rfl ?_
  refine wr_iload_n rfl rfl rfl ?_
  refine wr_cv1 (k' := 68) (ci := 7) rfl rfl rfl rfl (by assumption) rfl rfl (wp_sinside (by omega)) (fun r h2 q => ?_)
  obtain ⟨rfl, hh⟩ := q
  rw [hh]
  clear hh h2
  dsimp only [Option.toList, List.cons_append, List.nil_append]
  rw [ei]
  refine wr_iald rfl rfl (by assumption) (by omega) (by omega) ?_
  refine wr_iret rfl rfl ?_
  exact ⟨by rw [show ((i : Int)).toNat = i by omega], rfl⟩
theorem wp_sout {d i : Nat} (w : isS h b sg N e cd ou hi ri ru eo el) (hI : i ≤ 12) : am_c X (d + 2) 67 [.ref b, .int (iI i)] h (fun r h' => r = some (.long (lI (ou i))) ∧ h' = h) := by
  obtain ⟨c0, c1, c2, c3, c4, c5, c6, c7⟩ := w
  have ei : max 0 (min (i : Int) 12) = (i : Int) := by omega
  refine am_c.of (Nat.le_of_ble_eq_true rfl) ?_
  show am_w _ _ _ (_, [_, _], _, _) _
  refine wr_aload_n rfl rfl rfl ?_
  refine wr_get (ci := 7) (f := 2) rfl rfl rfl (by assumption) rfl ?_
  refine wr_aload_n rfl rfl rfl ?_
  refine wr_iload_n rfl rfl rfl ?_
  refine wr_cv1 (k' := 68) (ci := 7) rfl rfl rfl rfl (by assumption) rfl rfl (wp_sinside (by omega)) (fun r h2 q => ?_)
  obtain ⟨rfl, hh⟩ := q
  rw [hh]
  clear hh h2
  dsimp only [Option.toList, List.cons_append, List.nil_append]
  rw [ei]
  refine wr_lald rfl rfl (by assumption) (by omega) (by omega) ?_
  refine wr_lret rfl rfl ?_
  exact ⟨by rw [show ((i : Int)).toNat = i by omega], rfl⟩
theorem wp_shigh {d i : Nat} (w : isS h b sg N e cd ou hi ri ru eo el) (hI : i ≤ 12) : am_c X (d + 2) 71 [.ref b, .int (iI i)] h (fun r h' => r = some (.long (lI (hi i))) ∧ h' = h) := by
  obtain ⟨c0, c1, c2, c3, c4, c5, c6, c7⟩ := w
  have ei : max 0 (min (i : Int) 12) = (i : Int) := by omega
  refine am_c.of (Nat.le_of_ble_eq_true rfl) ?_
  show am_w _ _ _ (_, [_, _], _, _) _
  refine wr_aload_n rfl rfl rfl ?_
  refine wr_get (ci := 7) (f := 3) rfl rfl rfl (by assumption) rfl ?_
  refine wr_aload_n rfl rfl rfl ?_
  refine wr_iload_n rfl rfl rfl ?_
  refine wr_cv1 (k' := 68) (ci := 7) rfl rfl rfl rfl (by assumption) rfl rfl (wp_sinside (by omega)) (fun r h2 q => ?_)
  obtain ⟨rfl, hh⟩ := q
  rw [hh]
  clear hh h2
  dsimp only [Option.toList, List.cons_append, List.nil_append]
  rw [ei]
  refine wr_lald rfl rfl (by assumption) (by omega) (by omega) ?_
  refine wr_lret rfl rfl ?_
  exact ⟨by rw [show ((i : Int)).toNat = i by omega], rfl⟩
theorem wp_srise {d i : Nat} (w : isS h b sg N e cd ou hi ri ru eo el) (hI : i ≤ 12) : am_c X (d + 2) 129 [.ref b, .int (iI i)] h (fun r h' => r = some (.long (lI (ri i))) ∧ h' = h) := by
  obtain ⟨c0, c1, c2, c3, c4, c5, c6, c7⟩ := w
  have ei : max 0 (min (i : Int) 12) = (i : Int) := by omega
  refine am_c.of (Nat.le_of_ble_eq_true rfl) ?_
  show am_w _ _ _ (_, [_, _], _, _) _
  refine wr_aload_n rfl rfl rfl ?_
  refine wr_get (ci := 7) (f := 4) rfl rfl rfl (by assumption) rfl ?_
  refine wr_aload_n rfl rfl rfl ?_
  refine wr_iload_n rfl rfl rfl ?_
  refine wr_cv1 (k' := 68) (ci := 7) rfl rfl rfl rfl (by assumption) rfl rfl (wp_sinside (by omega)) (fun r h2 q => ?_)
  obtain ⟨rfl, hh⟩ := q
  rw [hh]
  clear hh h2
  dsimp only [Option.toList, List.cons_append, List.nil_append]
  rw [ei]
  refine wr_lald rfl rfl (by assumption) (by omega) (by omega) ?_
  refine wr_lret rfl rfl ?_
  exact ⟨by rw [show ((i : Int)).toNat = i by omega], rfl⟩
theorem wp_srun {d i : Nat} (w : isS h b sg N e cd ou hi ri ru eo el) (hI : i ≤ 12) : am_c X (d + 2) 128 [.ref b, .int (iI i)] h (fun r h' => r = some (.long (lI (ru i))) ∧ h' = h) := by
  obtain ⟨c0, c1, c2, c3, c4, c5, c6, c7⟩ := w
  have ei : max 0 (min (i : Int) 12) = (i : Int) := by omega
  refine am_c.of (Nat.le_of_ble_eq_true rfl) ?_
  show am_w _ _ _ (_, [_, _], _, _) _
  refine wr_aload_n rfl rfl rfl ?_
  refine wr_get (ci := 7) (f := 5) rfl rfl rfl (by assumption) rfl ?_
  refine wr_aload_n rfl rfl rfl ?_
  refine wr_iload_n rfl rfl rfl ?_
  refine wr_cv1 (k' := 68) (ci := 7) rfl rfl rfl rfl (by assumption) rfl rfl (wp_sinside (by omega)) (fun r h2 q => ?_)
  obtain ⟨rfl, hh⟩ := q
  rw [hh]
  clear hh h2
  dsimp only [Option.toList, List.cons_append, List.nil_append]
  rw [ei]
  refine wr_lald rfl rfl (by assumption) (by omega) (by omega) ?_
  refine wr_lret rfl rfl ?_
  exact ⟨by rw [show ((i : Int)).toNat = i by omega], rfl⟩
theorem wp_sisEnd {d : Nat} {i : Int} (w : isS h b sg N e cd ou hi ri ru eo el) (hI : -2147483648 ≤ i ∧ i ≤ 2147483647) (hN : N ≤ 12) (he : e = 0 ∨ e = 1) : am_c X (d + 1) 110 [.ref b, .int (iI i)] h (fun r h' => r = some (.int (iI (b2 (e = 1 ∧ i = N)))) ∧ h' = h) := by
  obtain ⟨c0, c1, c2, c3, c4, c5, c6, c7⟩ := w
  refine am_c.of (Nat.le_of_ble_eq_true rfl) ?_
  show am_w _ _ _ (_, [_, _], _, _) _
  refine wr_aload_n rfl rfl rfl ?_
  refine wr_get (ci := 7) (f := 7) rfl rfl rfl (by assumption) rfl ?_
  refine wr_if_eq rfl rfl rfl (by omega) (fun c4 => ?_) (fun c4 => ?_)
  ·
    refine wr_iconst rfl rfl ?_
    refine wr_zret rfl rfl (by decide) ?_
    refine ⟨?_, rfl⟩
    first | rw [b2_t (by omega)] | rw [b2_f (by omega)]
  ·
    refine wr_iload_n rfl rfl rfl ?_
    refine wr_aload_n rfl rfl rfl ?_
    refine wr_get (ci := 7) (f := 6) rfl rfl rfl (by assumption) rfl ?_
    refine wr_icmp_ne rfl rfl rfl (by omega) (by omega) (fun c12 => ?_) (fun c12 => ?_)
    ·
      refine wr_iconst rfl rfl ?_
      refine wr_zret rfl rfl (by decide) ?_
      refine ⟨?_, rfl⟩
      first | rw [b2_t (by omega)] | rw [b2_f (by omega)]
    ·
      refine wr_iconst rfl rfl ?_
      refine wr_goto rfl rfl ?_
      refine wr_zret rfl rfl (by decide) ?_
      refine ⟨?_, rfl⟩
      first | rw [b2_t (by omega)] | rw [b2_f (by omega)]
/-- the level on the way to corner i, at pl: sU over sL -/
def sU (ou hi ri ru : Nat → Int) (i : Nat) (pl : Int) : Int := hi (i - 1) * ru i + 1000 * ri i * (pl - ou (i - 1))
theorem wp_sU {d i : Nat} {pl : Int} (w : isS h b sg N e cd ou hi ri ru eo el) (hI : i ≤ 12) : am_c X (d + 3) 127 [.ref b, .int (iI i), .long (lI pl)] h (fun r h' => r = some (.long (lI (sU ou hi ri ru i pl))) ∧ h' = h) := by
  have w' := w
  obtain ⟨c0, c1, c2, c3, c4, c5, c6, c7⟩ := w'
  have ei : max 0 ((i : Int) - 1) = ((i - 1 : Nat) : Int) := by omega
  refine am_c.of (Nat.le_of_ble_eq_true rfl) ?_
  show am_w _ _ _ (_, [_, _, _, _, _], _, _) _
  refine wr_iconst rfl rfl ?_
  refine wr_iload_n rfl rfl rfl ?_
  refine wr_iconst rfl rfl ?_
  refine wr_isub rfl rfl ?_
  refine wr_mmax rfl rfl rfl rfl (by omega) (by omega) ?_
  rw [ei]
  refine wr_istore (ls' := [_, _, _, _, _]) rfl rfl (Nat.le_of_ble_eq_true rfl) rfl ?_
  refine wr_aload_n rfl rfl rfl ?_
  refine wr_iload rfl rfl rfl ?_
  refine wr_cv1 (k' := 71) (ci := 7) rfl rfl rfl rfl (by assumption) rfl rfl (wp_shigh (i := i - 1) w (by omega)) (fun r h2 q => ?_)
  obtain ⟨rfl, hh⟩ := q
  rw [hh]
  clear hh h2
  dsimp only [Option.toList, List.cons_append, List.nil_append]
  refine wr_aload_n rfl rfl rfl ?_
  refine wr_iload_n rfl rfl rfl ?_
  refine wr_cv1 (k' := 128) (ci := 7) rfl rfl rfl rfl (by assumption) rfl rfl (wp_srun w hI) (fun r h2 q => ?_)
  obtain ⟨rfl, hh⟩ := q
  rw [hh]
  clear hh h2
  dsimp only [Option.toList, List.cons_append, List.nil_append]
  refine wr_lmul rfl rfl ?_
  refine wr_ldc2 (z := 1000) rfl rfl rfl (by decide) ?_
  refine wr_aload_n rfl rfl rfl ?_
  refine wr_iload_n rfl rfl rfl ?_
  refine wr_cv1 (k' := 129) (ci := 7) rfl rfl rfl rfl (by assumption) rfl rfl (wp_srise w hI) (fun r h2 q => ?_)
  obtain ⟨rfl, hh⟩ := q
  rw [hh]
  clear hh h2
  dsimp only [Option.toList, List.cons_append, List.nil_append]
  refine wr_lmul rfl rfl ?_
  refine wr_lload_n rfl rfl rfl ?_
  refine wr_aload_n rfl rfl rfl ?_
  refine wr_iload rfl rfl rfl ?_
  refine wr_cv1 (k' := 67) (ci := 7) rfl rfl rfl rfl (by assumption) rfl rfl (wp_sout (i := i - 1) w (by omega)) (fun r h2 q => ?_)
  obtain ⟨rfl, hh⟩ := q
  rw [hh]
  clear hh h2
  dsimp only [Option.toList, List.cons_append, List.nil_append]
  refine wr_lsub rfl rfl ?_
  refine wr_lmul rfl rfl ?_
  refine wr_ladd rfl rfl ?_
  refine wr_lret rfl rfl ?_
  exact ⟨rfl, rfl⟩
theorem wp_sL {d i : Nat} (w : isS h b sg N e cd ou hi ri ru eo el) (hI : i ≤ 12) : am_c X (d + 3) 130 [.ref b, .int (iI i)] h (fun r h' => r = some (.long (lI (1000 * ru i))) ∧ h' = h) := by
  have w' := w
  obtain ⟨c0, c1, c2, c3, c4, c5, c6, c7⟩ := w'
  refine am_c.of (Nat.le_of_ble_eq_true rfl) ?_
  show am_w _ _ _ (_, [_, _], _, _) _
  refine wr_ldc2 (z := 1000) rfl rfl rfl (by decide) ?_
  refine wr_aload_n rfl rfl rfl ?_
  refine wr_iload_n rfl rfl rfl ?_
  refine wr_cv1 (k' := 128) (ci := 7) rfl rfl rfl rfl (by assumption) rfl rfl (wp_srun w hI) (fun r h2 q => ?_)
  obtain ⟨rfl, hh⟩ := q
  rw [hh]
  clear hh h2
  dsimp only [Option.toList, List.cons_append, List.nil_append]
  refine wr_lmul rfl rfl ?_
  refine wr_lret rfl rfl ?_
  exact ⟨rfl, rfl⟩
/-- corner i against the place pl -/
def sA (N : Nat) (e : Int) (ou : Nat → Int) (eo : Rat) (i : Nat) (pl : Int) : Int := if e = 1 ∧ i = N then cmpI (eo.num.natAbs : Int) ((eo.den : Int) * pl) else cmpI (ou i) pl
theorem wp_sA {d s i : Nat} {pl : Int} (w : isS h b sg N e cd ou hi ri ru eo el) (a : arX h s) (hs : sepA s (b + 6)) (hI : i ≤ 12) (hN : N ≤ 12) (he : e = 0 ∨ e = 1) (hpl : 0 ≤ pl ∧ pl ≤ 9223372036854775807) (ho : -9223372036854775808 ≤ ou i ∧ ou i ≤ 9223372036854775807) (hd : (eo.den : Int) < 1000000000 ^ 120) : am_c X (d + 3) 117 [.ref b, .int (iI i), .long (lI pl), .ref s] h (fun r h' => r = some (.int (iI (sA N e ou eo i pl))) ∧ arX h' s ∧ frA s [] h h') := by
  have w' := w
  obtain ⟨c0, c1, c2, c3, c4, c5, c6, c7⟩ := w'
  obtain ⟨v, av⟩ := id a
  have c_s : h[s]? = some (arCell s) := av.1
  unfold arCell at c_s
  unfold sA
  have bi := b2_in (e = 1 ∧ (i : Int) = N)
  refine am_c.of (Nat.le_of_ble_eq_true rfl) ?_
  show am_w _ _ _ (_, [_, _, _, _, _], _, _) _
  refine wr_aload_n rfl rfl rfl ?_
  refine wr_iload_n rfl rfl rfl ?_
  refine wr_cv1 (k' := 110) (ci := 7) rfl rfl rfl rfl (by assumption) rfl rfl (wp_sisEnd w (by omega) hN he) (fun r h2 q => ?_)
  obtain ⟨rfl, hh⟩ := q
  rw [hh]
  clear hh h2
  dsimp only [Option.toList, List.cons_append, List.nil_append]
  refine wr_if_eq rfl rfl rfl (by omega) (fun c5 => ?_) (fun c5 => ?_)
  ·
    have nq : ¬ (e = 1 ∧ i = N) := fun q => by rw [b2_t (by omega)] at c5; omega
    rw [if_neg nq]
    refine wr_aload_n rfl rfl rfl ?_
    refine wr_iload_n rfl rfl rfl ?_
    refine wr_cv1 (k' := 67) (ci := 7) rfl rfl rfl rfl (by assumption) rfl rfl (wp_sout w hI) (fun r h2 q => ?_)
    obtain ⟨rfl, hh⟩ := q
    rw [hh]
    clear hh h2
    dsimp only [Option.toList, List.cons_append, List.nil_append]
    refine wr_lload_n rfl rfl rfl ?_
    refine wr_cs2 (k' := 78) rfl rfl rfl rfl rfl (wp_lcompare ho (by omega)) (fun r h2 q => ?_)
    obtain ⟨rfl, hh⟩ := q
    rw [hh]
    clear hh h2
    dsimp only [Option.toList, List.cons_append, List.nil_append]
    refine wr_iret rfl rfl ?_
    exact ⟨rfl, a, frA_rf _ _ _⟩
  ·
    have nq : e = 1 ∧ i = N := Decidable.byContradiction fun q => c5 (b2_f (by omega))
    rw [if_pos nq]
    refine wr_aload rfl rfl rfl ?_
    refine wr_aload_n rfl rfl rfl ?_
    refine wr_get (ci := 7) (f := 8) rfl rfl rfl (by assumption) rfl ?_
    refine wr_lload_n rfl rfl rfl ?_
    refine wr_cv2 (k' := 118) (ci := 4) rfl rfl rfl rfl (by assumption) rfl rfl (wp_cmpF av c6 hs (by omega) hpl hd) (fun r h2 q => ?_)
    obtain ⟨rfl, a2, f2⟩ := q
    dsimp only [Option.toList, List.cons_append, List.nil_append]
    refine wr_goto rfl rfl ?_
    refine wr_iret rfl rfl ?_
    exact ⟨rfl, a2, f2⟩
theorem wp_sbegin {d : Nat} {H : Int} (w : isS h b sg N e cd ou hi ri ru eo el) : am_c X (d + 1) 57 [.ref b, .long (lI H)] h (fun r h' => r = none ∧ isS h' b sg 0 0 (updI cd 0 0) (updI ou 0 0) (updI hi 0 H) (updI ri 0 0) (updI ru 0 1) eo el ∧ frI [(b, b + 5)] h h') := by
  have w' := w
  obtain ⟨c0, c1, c2, c3, c4, c5, c6, c7⟩ := w'
  refine am_c.of (Nat.le_of_ble_eq_true rfl) ?_
  show am_w _ _ _ (_, [_, _, _], _, _) _
  refine wr_aload_n rfl rfl rfl ?_
  refine wr_get (ci := 7) (f := 1) rfl rfl rfl (by assumption) rfl ?_
  refine wr_iconst rfl rfl ?_
  refine wr_iconst rfl rfl ?_
  refine wr_iast rfl rfl (by assumption) (by omega) (by omega) (fun h1 e1 => ?_)
  have f := frI_set (h := h) (a := b + 1) (c := am_ia 13 (updI cd (0 : Int).toNat 0)) (lo := b) (up := b + 5) (by omega)
  rw [← e1] at f
  have w := e1 ▸ w.s1
  clear e1
  obtain ⟨c0, c1, c2, c3, c4, c5, c6, c7⟩ := id w
  refine wr_aload_n rfl rfl rfl ?_
  refine wr_get (ci := 7) (f := 2) rfl rfl rfl (by assumption) rfl ?_
  refine wr_iconst rfl rfl ?_
  refine wr_lconst (z := 0) rfl rfl rfl ?_
  refine wr_last rfl rfl c2 (by omega) (by omega) (fun h2 e1 => ?_)
  have f := frI_tr f (show frI [(b, b + 5)] h1 h2 from e1 ▸ frI_set (by omega))
  have w := e1 ▸ w.s2
  clear e1
  obtain ⟨c0, c1, c2, c3, c4, c5, c6, c7⟩ := id w
  refine wr_aload_n rfl rfl rfl ?_
  refine wr_get (ci := 7) (f := 3) rfl rfl rfl (by assumption) rfl ?_
  refine wr_iconst rfl rfl ?_
  refine wr_lload_n rfl rfl rfl ?_
  refine wr_last rfl rfl c3 (by omega) (by omega) (fun h3 e1 => ?_)
  have f := frI_tr f (show frI [(b, b + 5)] h2 h3 from e1 ▸ frI_set (by omega))
  have w := e1 ▸ w.s3
  clear e1
  obtain ⟨c0, c1, c2, c3, c4, c5, c6, c7⟩ := id w
  refine wr_aload_n rfl rfl rfl ?_
  refine wr_get (ci := 7) (f := 4) rfl rfl rfl (by assumption) rfl ?_
  refine wr_iconst rfl rfl ?_
  refine wr_lconst (z := 0) rfl rfl rfl ?_
  refine wr_last rfl rfl c4 (by omega) (by omega) (fun h4 e1 => ?_)
  have f := frI_tr f (show frI [(b, b + 5)] h3 h4 from e1 ▸ frI_set (by omega))
  have w := e1 ▸ w.s4
  clear e1
  obtain ⟨c0, c1, c2, c3, c4, c5, c6, c7⟩ := id w
  refine wr_aload_n rfl rfl rfl ?_
  refine wr_get (ci := 7) (f := 5) rfl rfl rfl (by assumption) rfl ?_
  refine wr_iconst rfl rfl ?_
  refine wr_lconst (z := 1) rfl rfl rfl ?_
  refine wr_last rfl rfl c5 (by omega) (by omega) (fun h5 e1 => ?_)
  have f := frI_tr f (show frI [(b, b + 5)] h4 h5 from e1 ▸ frI_set (by omega))
  have w := e1 ▸ w.s5
  clear e1
  obtain ⟨c0, c1, c2, c3, c4, c5, c6, c7⟩ := id w
  refine wr_aload_n rfl rfl rfl ?_
  refine wr_iconst rfl rfl ?_
  refine wr_putI (ci := 7) (f := 6) (fs' := [_, _, _, _, _, _, _, _, _, _]) rfl rfl rfl c0 rfl rfl rfl (fun h6 e1 => ?_)
  have f := frI_tr f (show frI [(b, b + 5)] h5 h6 from e1 ▸ frI_set (by omega))
  have w := e1 ▸ w.s0 (N' := 0) (e' := e)
  clear e1
  obtain ⟨c0, c1, c2, c3, c4, c5, c6, c7⟩ := id w
  refine wr_aload_n rfl rfl rfl ?_
  refine wr_iconst rfl rfl ?_
  refine wr_putZ (ci := 7) (f := 7) (fs' := [_, _, _, _, _, _, _, _, _, _]) rfl rfl rfl c0 rfl rfl (by decide) rfl (fun h7 e1 => ?_)
  have f := frI_tr f (show frI [(b, b + 5)] h6 h7 from e1 ▸ frI_set (by omega))
  have w := e1 ▸ w.s0 (N' := 0) (e' := 0)
  clear e1
  refine wr_vret rfl rfl ?_
  exact ⟨rfl, w, f⟩
theorem wp_sadd {d : Nat} {c wd dr rs rn : Int} (w : isS h b sg N e cd ou hi ri ru eo el) (hN : N < 12) : am_c X (d + 1) 102 [.ref b, .int (iI c), .long (lI wd), .long (lI dr), .long (lI rs), .long (lI rn)] h (fun r h' => r = none ∧ isS h' b sg (N + 1) e (updI cd (N + 1) c) (updI ou (N + 1) (ou N + wd)) (updI hi (N + 1) (hi N - dr)) (updI ri (N + 1) rs) (updI ru (N + 1) rn) eo el ∧ frI [(b, b + 5)] h h') := by
  have w' := w
  obtain ⟨c0, c1, c2, c3, c4, c5, c6, c7⟩ := w'
  have et : ((N : Int) + 1).toNat = N + 1 := by omega
  have et2 : ((N : Int)).toNat = N := by omega
  refine am_c.of (Nat.le_of_ble_eq_true rfl) ?_
  show am_w _ _ _ (_, [_, _, _, _, _, _, _, _, _, _], _, _) _
  refine wr_aload_n rfl rfl rfl ?_
  refine wr_get (ci := 7) (f := 6) rfl rfl rfl (by assumption) rfl ?_
  refine wr_iconst rfl rfl ?_
  refine wr_iadd rfl rfl ?_
  refine wr_bipush rfl rfl (by decide) ?_
  refine wr_icmp_ge rfl rfl rfl (by omega) (by omega) (fun c8 => ?_) (fun c8 => ?_)
  · exfalso; omega
  ·
    refine wr_aload_n rfl rfl rfl ?_
    refine wr_get (ci := 7) (f := 6) rfl rfl rfl (by assumption) rfl ?_
    refine wr_if_ge rfl rfl rfl (by omega) (fun c15 => ?_) (fun c15 => ?_)
    ·
      refine wr_aload_n rfl rfl rfl ?_
      refine wr_get (ci := 7) (f := 1) rfl rfl rfl (by assumption) rfl ?_
      refine wr_aload_n rfl rfl rfl ?_
      refine wr_get (ci := 7) (f := 6) rfl rfl rfl (by assumption) rfl ?_
      refine wr_iconst rfl rfl ?_
      refine wr_iadd rfl rfl ?_
      refine wr_iload_n rfl rfl rfl ?_
      refine wr_iast rfl rfl (by assumption) (by omega) (by omega) (fun h1 e1 => ?_)
      have f := frI_set (h := h) (a := b + 1) (c := am_ia 13 (updI cd ((N : Int) + 1).toNat c)) (lo := b) (up := b + 5) (by omega)
      rw [← e1] at f
      have w := e1 ▸ w.s1
      clear e1
      rw [et] at w
      obtain ⟨c0, c1, c2, c3, c4, c5, c6, c7⟩ := id w
      refine wr_aload_n rfl rfl rfl ?_
      refine wr_get (ci := 7) (f := 2) rfl rfl rfl (by assumption) rfl ?_
      refine wr_aload_n rfl rfl rfl ?_
      refine wr_get (ci := 7) (f := 6) rfl rfl rfl (by assumption) rfl ?_
      refine wr_iconst rfl rfl ?_
      refine wr_iadd rfl rfl ?_
      refine wr_aload_n rfl rfl rfl ?_
      refine wr_get (ci := 7) (f := 2) rfl rfl rfl (by assumption) rfl ?_
      refine wr_aload_n rfl rfl rfl ?_
      refine wr_get (ci := 7) (f := 6) rfl rfl rfl (by assumption) rfl ?_
      refine wr_lald rfl rfl (by assumption) (by omega) (by omega) ?_
      refine wr_lload_n rfl rfl rfl ?_
      refine wr_ladd rfl rfl ?_
      refine wr_last rfl rfl c2 (by omega) (by omega) (fun h2 e1 => ?_)
      have f := frI_tr f (show frI [(b, b + 5)] h1 h2 from e1 ▸ frI_set (by omega))
      have w := e1 ▸ w.s2
      clear e1
      rw [et] at w
      obtain ⟨c0, c1, c2, c3, c4, c5, c6, c7⟩ := id w
      rw [et2] at c2 w
      refine wr_aload_n rfl rfl rfl ?_
      refine wr_get (ci := 7) (f := 3) rfl rfl rfl (by assumption) rfl ?_
      refine wr_aload_n rfl rfl rfl ?_
      refine wr_get (ci := 7) (f := 6) rfl rfl rfl (by assumption) rfl ?_
      refine wr_iconst rfl rfl ?_
      refine wr_iadd rfl rfl ?_
      refine wr_aload_n rfl rfl rfl ?_
      refine wr_get (ci := 7) (f := 3) rfl rfl rfl (by assumption) rfl ?_
      refine wr_aload_n rfl rfl rfl ?_
      refine wr_get (ci := 7) (f := 6) rfl rfl rfl (by assumption) rfl ?_
      refine wr_lald rfl rfl (by assumption) (by omega) (by omega) ?_
      refine wr_lload rfl rfl rfl ?_
      refine wr_lsub rfl rfl ?_
      refine wr_last rfl rfl c3 (by omega) (by omega) (fun h3 e1 => ?_)
      have f := frI_tr f (show frI [(b, b + 5)] h2 h3 from e1 ▸ frI_set (by omega))
      have w := e1 ▸ w.s3
      clear e1
      rw [et] at w
      obtain ⟨c0, c1, c2, c3, c4, c5, c6, c7⟩ := id w
      rw [et2] at c3 w
      refine wr_aload_n rfl rfl rfl ?_
      refine wr_get (ci := 7) (f := 4) rfl rfl rfl (by assumption) rfl ?_
      refine wr_aload_n rfl rfl rfl ?_
      refine wr_get (ci := 7) (f := 6) rfl rfl rfl (by assumption) rfl ?_
      refine wr_iconst rfl rfl ?_
      refine wr_iadd rfl rfl ?_
      refine wr_lload rfl rfl rfl ?_
      refine wr_last rfl rfl c4 (by omega) (by omega) (fun h4 e1 => ?_)
      have f := frI_tr f (show frI [(b, b + 5)] h3 h4 from e1 ▸ frI_set (by omega))
      have w := e1 ▸ w.s4
      clear e1
      rw [et] at w
      obtain ⟨c0, c1, c2, c3, c4, c5, c6, c7⟩ := id w
      refine wr_aload_n rfl rfl rfl ?_
      refine wr_get (ci := 7) (f := 5) rfl rfl rfl (by assumption) rfl ?_
      refine wr_aload_n rfl rfl rfl ?_
      refine wr_get (ci := 7) (f := 6) rfl rfl rfl (by assumption) rfl ?_
      refine wr_iconst rfl rfl ?_
      refine wr_iadd rfl rfl ?_
      refine wr_lload rfl rfl rfl ?_
      refine wr_last rfl rfl c5 (by omega) (by omega) (fun h5 e1 => ?_)
      have f := frI_tr f (show frI [(b, b + 5)] h4 h5 from e1 ▸ frI_set (by omega))
      have w := e1 ▸ w.s5
      clear e1
      rw [et] at w
      obtain ⟨c0, c1, c2, c3, c4, c5, c6, c7⟩ := id w
      refine wr_aload_n rfl rfl rfl ?_
      refine wr_dup rfl rfl ?_
      refine wr_get (ci := 7) (f := 6) rfl rfl rfl (by assumption) rfl ?_
      refine wr_iconst rfl rfl ?_
      refine wr_iadd rfl rfl ?_
      refine wr_putI (ci := 7) (f := 6) (fs' := [_, _, _, _, _, _, _, _, _, _]) rfl rfl rfl c0 rfl rfl rfl (fun h6 e1 => ?_)
      have f := frI_tr f (show frI [(b, b + 5)] h5 h6 from e1 ▸ frI_set (by omega))
      have w := e1 ▸ w.s0 (N' := N + 1) (e' := e)
      clear e1
      refine wr_vret rfl rfl ?_
      exact ⟨rfl, w, f⟩
    · exfalso; omega
end SID
