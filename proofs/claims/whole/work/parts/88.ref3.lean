/-! THE REFERENCE'S NUMBERS: divide, common, reduce -/
theorem tp_mono {m n : Nat} (h : m ≤ n) : (2 : Int) ^ m ≤ 2 ^ n := by
  have := Nat.pow_le_pow_right (n := 2) (by decide) h
  exact_mod_cast this
theorem ngcd_even2 (x y : Nat) (h1 : x % 2 = 0) (h2 : y % 2 = 0) : Nat.gcd x y = 2 * Nat.gcd (x / 2) (y / 2) := by
  rw [← Nat.gcd_mul_left, show 2 * (x / 2) = x by omega, show 2 * (y / 2) = y by omega]
theorem ngcd_even1 (x y : Nat) (h1 : x % 2 = 0) (h2 : y % 2 = 1) : Nat.gcd (x / 2) y = Nat.gcd x y := by
  have c : Nat.Coprime 2 y := by
    unfold Nat.Coprime
    rw [Nat.gcd_rec, h2]
    rfl
  have := Nat.Coprime.gcd_mul_left_cancel (x / 2) c
  rw [show 2 * (x / 2) = x by omega] at this
  exact this.symm
theorem igcd_nat {x y : Int} (hx : 0 ≤ x) (hy : 0 ≤ y) : Int.gcd x y = Nat.gcd x.toNat y.toNat := by
  unfold Int.gcd
  rw [show x.natAbs = x.toNat by omega, show y.natAbs = y.toNat by omega]
theorem igcd_e2 {x y : Int} (hx : 0 ≤ x) (hy : 0 ≤ y) (h1 : x % 2 = 0) (h2 : y % 2 = 0) : Int.gcd x y = 2 * Int.gcd (x / 2) (y / 2) := by
  rw [igcd_nat hx hy, igcd_nat (by omega) (by omega), ngcd_even2 _ _ (by omega) (by omega), show (x / 2).toNat = x.toNat / 2 by omega, show (y / 2).toNat = y.toNat / 2 by omega]
theorem igcd_el {x y : Int} (hx : 0 ≤ x) (hy : 0 ≤ y) (h1 : x % 2 = 0) (h2 : y % 2 = 1) : Int.gcd (x / 2) y = Int.gcd x y := by
  rw [igcd_nat hx hy, igcd_nat (by omega) (by omega), show (x / 2).toNat = x.toNat / 2 by omega, ngcd_even1 _ _ (by omega) (by omega)]
theorem igcd_er {x y : Int} (hx : 0 ≤ x) (hy : 0 ≤ y) (h1 : x % 2 = 1) (h2 : y % 2 = 0) : Int.gcd x (y / 2) = Int.gcd x y := by
  rw [Int.gcd_comm, igcd_el hy hx h2 h1, Int.gcd_comm]
theorem igcd_sl {x y : Int} (hx : 0 ≤ x) (hy : 0 ≤ y) (h : y ≤ x) : Int.gcd (x - y) y = Int.gcd x y := by
  rw [igcd_nat hx hy, igcd_nat (by omega) (by omega), show (x - y).toNat = x.toNat - y.toNat by omega, Nat.gcd_sub_self_left (by omega)]
theorem igcd_sr {x y : Int} (hx : 0 ≤ x) (hy : 0 ≤ y) (h : x ≤ y) : Int.gcd x (y - x) = Int.gcd x y := by
  rw [Int.gcd_comm, igcd_sl hy hx h, Int.gcd_comm]
theorem div_is {x y q r : Int} (e : q * y + r = x) (h1 : 0 ≤ r) (h2 : r < y) : x / y = q := ((Int.ediv_emod_unique (r := r) (by omega)).mpr ⟨by rw [← e, Int.mul_comm]; omega, h1, h2⟩).1
section RF3
variable {X : Nat × (Nat → Int32)} {h0 h h' : am_H} {o l s V S : Nat → Int} {A : Nat → Nat → Int}
theorem rw_ex {r : Option Value} {t : Nat} {v : Int} (q : r = none ∧ RW h0 h' o (updI V t v) A) : r = none ∧ ∃ V', RW h0 h' o V' A ∧ V' t = v ∧ ∀ n, n ≠ t → V' n = V n := ⟨q.1, _, q.2, updI_s _ _ _, fun _ hn => updI_n hn⟩
theorem RW.cO (w : RW h0 h o V A) : h[164]? = some (mCell o) := by
  obtain ⟨l, s, w, R⟩ := w
  exact w.ob
theorem regN_pos {n : Nat} {v : Int} (r : regN l s n v) : ∃ k : Nat, s n = k ∧ k ≤ 260 ∧ (0 < k ↔ 0 < v) ∧ 0 ≤ v := by
  obtain ⟨k, k1, k2, k3, k4⟩ := r
  refine ⟨k, k1, k2, ⟨fun q => ?_, fun q => ?_⟩, ?_⟩
  · have := nv_low k3 q
    have := bp_pos (k - 1)
    omega
  · refine Decidable.byContradiction fun c => ?_
    obtain rfl : k = 0 := by omega
    have : nv (blk l n) 0 = 0 := rfl
    omega
  · rw [← k4]
    exact (nv_nonneg k3.1).1
theorem RW.size (w : RW h0 h o V A) : ∃ (s : Nat → Int), h[166]? = some (am_ia 260 s) ∧ ∀ n, n < 260 → ∃ k : Nat, s n = k ∧ k ≤ 260 ∧ (0 < k ↔ 0 < V n) := by
  obtain ⟨l, s, w, R⟩ := w
  refine ⟨s, w.sz, fun n hn => ?_⟩
  obtain ⟨k, k1, k2, k3, k4⟩ := regN_pos (R n hn)
  exact ⟨k, k1, k2, k3⟩
theorem mw_divide {d a b : Nat} (w : RW h0 h o V A) (ha : a < 260) (hb : b < 260) (ha' : a ≠ 254) (hb' : b ≠ 252 ∧ b ≠ 254) (pos : 0 < V b) (fit : V a < 1000000000 ^ 259) : am_c X (d + 3) 152 [.ref 164, .int (iI 253), .int (iI 254), .int (iI a), .int (iI b)] h (fun r h' => r = none ∧ ∃ V', RW h0 h' o V' A ∧ V' 253 = V a / V b ∧ ∀ n, n ≠ 252 → n ≠ 253 → n ≠ 254 → n ≠ 255 → V' n = V n) := by
  have na := w.nn ha
  have B2 : (1000000000 : Int) ^ 260 = 1000000000 ^ 259 * 1000000000 := Int.pow_succ 1000000000 259
  have B3 := bp_pos 259
  have B4 := bp_two 259
  generalize (1000000000 : Int) ^ 259 = Bg at fit B2 B3 B4
  have L2 : ∀ (m k t : Nat) (V1 : Nat → Int) (h1 : am_H), k + m = t → t ≤ 7801 → RW h0 h1 o V1 A → V1 255 = 1 → V1 252 = V b * 2 ^ m → V1 253 * (V b * 2 ^ m) + V1 254 = V a → V1 254 < V b * 2 ^ m → (∀ n, n ≠ 252 → n ≠ 253 → n ≠ 254 → n ≠ 255 → V1 n = V n) → am_w X (d + 2) 152 (66, [.ref 164, .int (iI 253), .int (iI 254), .int (iI a), .int (iI b), .int (iI t), .int (iI k)], [], h1) (fun r h' => r = none ∧ ∃ V', RW h0 h' o V' A ∧ V' 253 = V a / V b ∧ ∀ n, n ≠ 252 → n ≠ 253 → n ≠ 254 → n ≠ 255 → V' n = V n) := by
    intro m
    induction m with
    | zero =>
      intro k t V1 h1 hk ht w u1 t1 e1 e2 fn
      refine wr_iload rfl rfl rfl ?_
      refine wr_iload rfl rfl rfl ?_
      refine wr_icmp_ge rfl rfl rfl (by omega) (by omega) (fun c70 => ?_) (fun c70 => by exfalso; omega)
      refine wr_vret rfl rfl ?_
      refine ⟨rfl, V1, w, ?_, fn⟩
      rw [show (2 : Int) ^ 0 = 1 from rfl, Int.mul_one] at e1 e2
      exact (div_is e1 (w.nn (by decide)) e2).symm
    | succ m ih =>
      intro k t V1 h1 hk ht w u1 t1 e1 e2 fn
      have p1 : (1 : Int) ≤ 2 ^ m := tp_mono (m := 0) (by omega)
      rw [show V b * 2 ^ (m + 1) = V b * 2 ^ m * 2 by rw [Int.pow_succ, Int.mul_assoc]] at t1 e1 e2
      have pE : 1 ≤ V b * 2 ^ m := by
        have := Int.mul_le_mul_of_nonneg_left p1 (Int.le_of_lt pos)
        omega
      generalize eE : V b * 2 ^ m = E at t1 e1 e2 pE ih
      have n3 := w.nn (n := 253) (by decide)
      have n4 := w.nn (n := 254) (by decide)
      have q2 : V1 253 * 2 ≤ V a := by
        have := Int.mul_le_mul_of_nonneg_left (show (2 : Int) ≤ E * 2 by omega) n3
        omega
      have cO := w.cO
      refine wr_iload rfl rfl rfl ?_
      refine wr_iload rfl rfl rfl ?_
      refine wr_icmp_ge rfl rfl rfl (by omega) (by omega) (fun c70 => by exfalso; omega) (fun c70 => ?_)
      refine wr_aload_n rfl rfl rfl ?_
      refine wr_sipush rfl rfl (by decide) ?_
      refine wr_cv1 (k' := 147) (ci := 12) rfl rfl rfl rfl (by assumption) rfl rfl (mw_halve w (by decide)) (fun r h2 q => ?_)
      obtain ⟨rfl, V2, w, s2, n2⟩ := rw_ex q
      have cO := w.cO
      refine wr_aload_n rfl rfl rfl ?_
      refine wr_iload_n rfl rfl rfl ?_
      refine wr_iload_n rfl rfl rfl ?_
      refine wr_iload_n rfl rfl rfl ?_
      refine wr_cv3 (k' := 151) (ci := 12) rfl rfl rfl rfl (by assumption) rfl rfl (mw_add (t := 253) (a := 253) (b := 253) w (by decide) (by decide) (by decide) (by rw [n2 253 (by decide)]; omega)) (fun r h2 q => ?_)
      obtain ⟨rfl, V3, w, s3, n3'⟩ := rw_ex q
      have g252 : V3 252 = E := by rw [n3' _ (by decide), s2, t1]; omega
      have g253 : V3 253 = V1 253 * 2 := by rw [s3, n2 _ (by decide)]; omega
      have g254 : V3 254 = V1 254 := by rw [n3' _ (by decide), n2 _ (by decide)]
      have g255 : V3 255 = 1 := by rw [n3' _ (by decide), n2 _ (by decide), u1]
      have gn : ∀ n, n ≠ 252 → n ≠ 253 → n ≠ 254 → n ≠ 255 → V3 n = V n := fun n a b c e => by rw [n3' _ b, n2 _ a, fn n a b c e]
      have cO := w.cO
      refine wr_aload_n rfl rfl rfl ?_
      refine wr_sipush rfl rfl (by decide) ?_
      refine wr_iload_n rfl rfl rfl ?_
      refine wr_cv2 (k' := 149) (ci := 12) rfl rfl rfl rfl (by assumption) rfl rfl (mw_compare (a := 252) (b := 254) w (by decide) (by decide)) (fun r h2 q => ?_)
      obtain ⟨rfl, rfl⟩ := q
      have cc := cmpI_cases (V3 252) (V3 254)
      by_cases c : V3 252 ≤ V3 254
      ·
        refine wr_if_gt rfl rfl rfl (by omega) (fun c95 => by exfalso; omega) (fun c95 => ?_)
        refine wr_aload_n rfl rfl rfl ?_
        refine wr_iload_n rfl rfl rfl ?_
        refine wr_iload_n rfl rfl rfl ?_
        refine wr_sipush rfl rfl (by decide) ?_
        refine wr_cv3 (k' := 150) (ci := 12) rfl rfl rfl rfl (by assumption) rfl rfl (mw_take (t := 254) (a := 254) (b := 252) w (by decide) (by decide) (by decide) c) (fun r h2 q => ?_)
        obtain ⟨rfl, V4, w, s4, n4'⟩ := rw_ex q
        have cO := w.cO
        refine wr_aload_n rfl rfl rfl ?_
        refine wr_iload_n rfl rfl rfl ?_
        refine wr_iload_n rfl rfl rfl ?_
        refine wr_sipush rfl rfl (by decide) ?_
        refine wr_cv3 (k' := 151) (ci := 12) rfl rfl rfl rfl (by assumption) rfl rfl (mw_add (t := 253) (a := 253) (b := 255) w (by decide) (by decide) (by decide) (by rw [n4' 253 (by decide), n4' 255 (by decide)]; omega)) (fun r h2 q => ?_)
        obtain ⟨rfl, V5, w, s5, n5⟩ := rw_ex q
        refine wr_iinc (ls' := [_, _, _, _, _, _, _]) rfl rfl rfl rfl ?_
        refine wr_goto rfl rfl ?_
        rw [show (k : Int) + 1 = ((k + 1 : Nat) : Int) by omega]
        refine ih (k + 1) t V5 _ (by omega) ht w ?_ ?_ ?_ ?_ (fun n a b c e => ?_)
        · rw [n5 _ (by decide), n4' _ (by decide), g255]
        · rw [n5 _ (by decide), n4' _ (by decide), g252]
        · rw [s5, n5 _ (by decide), s4, n4' _ (by decide), n4' _ (by decide), g253, g252, g254, g255]
          grind
        · rw [n5 _ (by decide), s4]
          omega
        · rw [n5 _ b, n4' _ c, gn n a b c e]
      ·
        refine wr_if_gt rfl rfl rfl (by omega) (fun c95 => ?_) (fun c95 => by exfalso; omega)
        refine wr_iinc (ls' := [_, _, _, _, _, _, _]) rfl rfl rfl rfl ?_
        refine wr_goto rfl rfl ?_
        rw [show (k : Int) + 1 = ((k + 1 : Nat) : Int) by omega]
        refine ih (k + 1) t V3 _ (by omega) ht w g255 g252 ?_ ?_ gn
        · rw [g253, g254]
          grind
        · omega
  have L1 : ∀ (c t : Nat) (V1 : Nat → Int) (h1 : am_H), t + c = 7801 → RW h0 h1 o V1 A → V1 252 = V b * 2 ^ t → V1 253 = 0 → V1 254 = V a → (∀ n, n ≠ 252 → n ≠ 253 → n ≠ 254 → n ≠ 255 → V1 n = V n) → am_w X (d + 2) 152 (25, [.ref 164, .int (iI 253), .int (iI 254), .int (iI a), .int (iI b), .int (iI t), am_U], [], h1) (fun r h' => r = none ∧ ∃ V', RW h0 h' o V' A ∧ V' 253 = V a / V b ∧ ∀ n, n ≠ 252 → n ≠ 253 → n ≠ 254 → n ≠ 255 → V' n = V n) := by
    intro c
    induction c with
    | zero =>
      intro t V1 h1 ht w t1 z1 r1 fn
      obtain rfl : t = 7801 := by omega
      have p2 : V a < V b * 2 ^ 7801 := by
        have q1 : (2 : Int) ^ (30 * 259) ≤ 2 ^ 7801 := tp_mono (by decide)
        generalize (2 : Int) ^ 7801 = P at q1 ⊢
        have := Int.mul_le_mul_of_nonneg_right (show (1 : Int) ≤ V b by omega) (show (0 : Int) ≤ P by omega)
        omega
      generalize (7801 : Nat) = T at t1 p2 L2 ht
      have cO := w.cO
      have cc := cmpI_cases (V1 252) (V1 254)
      refine wr_aload_n rfl rfl rfl ?_
      refine wr_sipush rfl rfl (by decide) ?_
      refine wr_iload_n rfl rfl rfl ?_
      refine wr_cv2 (k' := 149) (ci := 12) rfl rfl rfl rfl (by assumption) rfl rfl (mw_compare (a := 252) (b := 254) w (by decide) (by decide)) (fun r h2 q => ?_)
      obtain ⟨rfl, rfl⟩ := q
      refine wr_if_gt rfl rfl rfl (by omega) (fun c33 => ?_) (fun c33 => by exfalso; omega)
      refine wr_aload_n rfl rfl rfl ?_
      refine wr_sipush rfl rfl (by decide) ?_
      refine wr_lconst (z := 1) rfl rfl rfl ?_
      refine wr_cv2 (k' := 142) (ci := 12) rfl rfl rfl rfl (by assumption) rfl rfl (mw_setNumber (n := 255) (v := 1) w (by decide) (by decide)) (fun r h2 q => ?_)
      obtain ⟨rfl, V2, w, s2, n2⟩ := rw_ex q
      refine wr_iconst rfl rfl ?_
      refine wr_istore (ls' := [_, _, _, _, _, _, _]) rfl rfl (Nat.le_of_ble_eq_true rfl) rfl ?_
      exact L2 T 0 T V2 _ (by omega) (by omega) w s2 (by rw [n2 _ (by decide), t1]) (by rw [n2 _ (by decide), n2 _ (by decide), z1, r1]; omega) (by rw [n2 _ (by decide), r1]; exact p2) (fun n a b c e => by rw [n2 _ e, fn n a b c e])
    | succ c ih =>
      intro t V1 h1 ht w t1 z1 r1 fn
      have cO := w.cO
      have cc := cmpI_cases (V1 252) (V1 254)
      refine wr_aload_n rfl rfl rfl ?_
      refine wr_sipush rfl rfl (by decide) ?_
      refine wr_iload_n rfl rfl rfl ?_
      refine wr_cv2 (k' := 149) (ci := 12) rfl rfl rfl rfl (by assumption) rfl rfl (mw_compare (a := 252) (b := 254) w (by decide) (by decide)) (fun r h2 q => ?_)
      obtain ⟨rfl, rfl⟩ := q
      by_cases le : V1 252 ≤ V1 254
      ·
        refine wr_if_gt rfl rfl rfl (by omega) (fun c33 => by exfalso; omega) (fun c33 => ?_)
        refine wr_aload_n rfl rfl rfl ?_
        refine wr_sipush rfl rfl (by decide) ?_
        refine wr_sipush rfl rfl (by decide) ?_
        refine wr_sipush rfl rfl (by decide) ?_
        refine wr_cv3 (k' := 151) (ci := 12) rfl rfl rfl rfl (by assumption) rfl rfl (mw_add (t := 252) (a := 252) (b := 252) w (by decide) (by decide) (by decide) (by omega)) (fun r h2 q => ?_)
        obtain ⟨rfl, V2, w, s2, n2⟩ := rw_ex q
        refine wr_iinc (ls' := [_, _, _, _, _, _, _]) rfl rfl rfl rfl ?_
        refine wr_goto rfl rfl ?_
        rw [show (t : Int) + 1 = ((t + 1 : Nat) : Int) by omega]
        exact ih (t + 1) V2 _ (by omega) w (by rw [s2, t1, Int.pow_succ]; grind) (by rw [n2 _ (by decide), z1]) (by rw [n2 _ (by decide), r1]) (fun n a b c e => by rw [n2 _ a, fn n a b c e])
      ·
        refine wr_if_gt rfl rfl rfl (by omega) (fun c33 => ?_) (fun c33 => by exfalso; omega)
        refine wr_aload_n rfl rfl rfl ?_
        refine wr_sipush rfl rfl (by decide) ?_
        refine wr_lconst (z := 1) rfl rfl rfl ?_
        refine wr_cv2 (k' := 142) (ci := 12) rfl rfl rfl rfl (by assumption) rfl rfl (mw_setNumber (n := 255) (v := 1) w (by decide) (by decide)) (fun r h2 q => ?_)
        obtain ⟨rfl, V2, w, s2, n2⟩ := rw_ex q
        refine wr_iconst rfl rfl ?_
        refine wr_istore (ls' := [_, _, _, _, _, _, _]) rfl rfl (Nat.le_of_ble_eq_true rfl) rfl ?_
        exact L2 t 0 t V2 _ (by omega) (by omega) w s2 (by rw [n2 _ (by decide), t1]) (by rw [n2 _ (by decide), n2 _ (by decide), z1, r1]; omega) (by rw [n2 _ (by decide), ← t1]; omega) (fun n a b c e => by rw [n2 _ e, fn n a b c e])
  have cO := w.cO
  refine am_c.of (Nat.le_of_ble_eq_true rfl) ?_
  show am_w _ _ _ (_, [_, _, _, _, _, _, _], _, _) _
  refine wr_aload_n rfl rfl rfl ?_
  refine wr_iload_n rfl rfl rfl ?_
  refine wr_iload_n rfl rfl rfl ?_
  refine wr_cv2 (k' := 145) (ci := 12) rfl rfl rfl rfl (by assumption) rfl rfl (mw_copyNumber (a := 254) (b := a) w (by decide) ha (by omega)) (fun r h2 q => ?_)
  obtain ⟨rfl, V2, w, s2, n2⟩ := rw_ex q
  have cO := w.cO
  refine wr_aload_n rfl rfl rfl ?_
  refine wr_sipush rfl rfl (by decide) ?_
  refine wr_iload rfl rfl rfl ?_
  refine wr_cv2 (k' := 145) (ci := 12) rfl rfl rfl rfl (by assumption) rfl rfl (mw_copyNumber (a := 252) (b := b) w (by decide) hb (by omega)) (fun r h2 q => ?_)
  obtain ⟨rfl, V3, w, s3, n3⟩ := rw_ex q
  obtain ⟨l, s, w, R⟩ := w
  have cO := w.ob
  have cL := w.li
  have cS := w.sz
  refine wr_aload_n rfl rfl rfl ?_
  refine wr_get (ci := 12) (f := 1) rfl rfl rfl (by assumption) rfl ?_
  refine wr_iload_n rfl rfl rfl ?_
  refine wr_iconst rfl rfl ?_
  refine wr_iast rfl rfl (by assumption) (by omega) (by omega) (fun h1 e1 => ?_)
  have w := e1 ▸ w.setS (updI s 253 0)
  have w : RW h0 h1 o (updI V3 253 0) A := ⟨l, _, w, R.set (agr_rf _ _ _).size ⟨0, updI_s _ _ _, by decide, ⟨fun i hi => absurd hi (by omega), fun q => absurd q (by omega)⟩, rfl⟩⟩
  obtain ⟨-, V4, w, s4, n4⟩ := rw_ex (r := none) ⟨rfl, w⟩
  refine wr_iconst rfl rfl ?_
  refine wr_istore (ls' := [_, _, _, _, _, _, _]) rfl rfl (Nat.le_of_ble_eq_true rfl) rfl ?_
  exact L1 7801 0 V4 _ (by omega) w (by rw [n4 _ (by decide), s3, n2 _ (by omega)]; show _ = _ * 1; omega) s4 (by rw [n4 _ (by decide), n3 _ (by decide), s2]) (fun n a b c e => by rw [n4 _ b, n3 _ a, n2 _ c])
theorem mw_common {d a b : Nat} (w : RW h0 h o V A) (ha : a < 250) (hb : b < 250) (pa : 0 < V a) (pb : 0 < V b) (fit : V a < 1000000000 ^ 259) : am_c X (d + 3) 144 [.ref 164, .int (iI a), .int (iI b)] h (fun r h' => r = none ∧ ∃ V', RW h0 h' o V' A ∧ V' 250 = (Int.gcd (V a) (V b) : Int) ∧ ∀ n, n ≠ 250 → n ≠ 251 → V' n = V n) := by
  have B2 : (1000000000 : Int) ^ 260 = 1000000000 ^ 259 * 1000000000 := Int.pow_succ 1000000000 259
  have B4 := bp_two 259
  generalize (1000000000 : Int) ^ 259 = Bg at fit B2 B4
  have gl : (Int.gcd (V a) (V b) : Int) ≤ V a := Int.le_of_dvd pa (Int.gcd_dvd_left ..)
  generalize eD : (Int.gcd (V a) (V b) : Int) = D at gl
  have DL : ∀ (m k t : Nat) (V1 : Nat → Int) (h1 : am_H), k + m = t → t < 7770 → RW h0 h1 o V1 A → V1 250 * 2 ^ m = D → (∀ n, n ≠ 250 → n ≠ 251 → V1 n = V n) → am_w X (d + 2) 144 (189, [.ref 164, .int (iI a), .int (iI b), .int (iI t), .int (iI k)], [], h1) (fun r h' => r = none ∧ ∃ V', RW h0 h' o V' A ∧ V' 250 = D ∧ ∀ n, n ≠ 250 → n ≠ 251 → V' n = V n) := by
    intro m
    induction m with
    | zero =>
      intro k t V1 h1 hk ht w e1 fn
      refine wr_iload rfl rfl rfl ?_
      refine wr_iload_n rfl rfl rfl ?_
      refine wr_icmp_ge rfl rfl rfl (by omega) (by omega) (fun c192 => ?_) (fun c192 => by exfalso; omega)
      refine wr_vret rfl rfl ?_
      exact ⟨rfl, V1, w, by rw [← e1]; exact (Int.mul_one _).symm, fn⟩
    | succ m ih =>
      intro k t V1 h1 hk ht w e1 fn
      have n0 := w.nn (n := 250) (by decide)
      have p1 : (1 : Int) ≤ 2 ^ m := tp_mono (m := 0) (by omega)
      rw [show V1 250 * 2 ^ (m + 1) = V1 250 * 2 * 2 ^ m by rw [Int.pow_succ]; grind] at e1
      have q2 : V1 250 * 2 ≤ D := by
        have := Int.mul_le_mul_of_nonneg_left p1 (show 0 ≤ V1 250 * 2 by omega)
        omega
      have cO := w.cO
      refine wr_iload rfl rfl rfl ?_
      refine wr_iload_n rfl rfl rfl ?_
      refine wr_icmp_ge rfl rfl rfl (by omega) (by omega) (fun c192 => by exfalso; omega) (fun c192 => ?_)
      refine wr_aload_n rfl rfl rfl ?_
      refine wr_sipush rfl rfl (by decide) ?_
      refine wr_sipush rfl rfl (by decide) ?_
      refine wr_sipush rfl rfl (by decide) ?_
      refine wr_cv3 (k' := 151) (ci := 12) rfl rfl rfl rfl (by assumption) rfl rfl (mw_add (t := 250) (a := 250) (b := 250) w (by decide) (by decide) (by decide) (by omega)) (fun r h2 q => ?_)
      obtain ⟨rfl, V2, w, s2, n2⟩ := rw_ex q
      refine wr_iinc (ls' := [_, _, _, _, _]) rfl rfl rfl rfl ?_
      refine wr_goto rfl rfl ?_
      rw [show (k : Int) + 1 = ((k + 1 : Nat) : Int) by omega]
      exact ih (k + 1) t V2 _ (by omega) ht w (by rw [s2, ← e1]; grind) (fun n a b => by rw [n2 _ a, fn n a b])
  have tB : ∀ {g : Nat} {t : Nat}, 0 < g → (g : Int) * 2 ^ t = D → t < 7770 := fun {g t} g0 e => Decidable.byContradiction fun c => by
    have q1 : (2 : Int) ^ (30 * 259) ≤ 2 ^ t := tp_mono (by omega)
    generalize (2 : Int) ^ t = P at q1 e
    have := Int.mul_le_mul_of_nonneg_right (show (1 : Int) ≤ g by omega) (show (0 : Int) ≤ P by omega)
    omega
  have L : ∀ (c t : Nat) (V1 : Nat → Int) (h1 : am_H), V1 250 + V1 251 ≤ c → RW h0 h1 o V1 A → 0 < V1 250 + V1 251 → (Int.gcd (V1 250) (V1 251) : Int) * 2 ^ t = D → (∀ n, n ≠ 250 → n ≠ 251 → V1 n = V n) → am_w X (d + 2) 144 (18, [.ref 164, .int (iI a), .int (iI b), .int (iI t), am_U], [], h1) (fun r h' => r = none ∧ ∃ V', RW h0 h' o V' A ∧ V' 250 = D ∧ ∀ n, n ≠ 250 → n ≠ 251 → V' n = V n) := by
    intro c
    induction c with
    | zero =>
      intro t V1 h1 hc w ps
      omega
    | succ c ih =>
      intro t V1 h1 hc w ps e1 fn
      have n0 := w.nn (n := 250) (by decide)
      have n1 := w.nn (n := 251) (by decide)
      have tb : t < 7770 := tB (Nat.pos_of_ne_zero fun z => by rw [Int.gcd_eq_zero_iff] at z; omega) e1
      obtain ⟨s, cS, sz⟩ := w.size
      obtain ⟨k, k1, k2, k3⟩ := sz 250 (by decide)
      obtain ⟨j, j1, j2, j3⟩ := sz 251 (by decide)
      have x1 : s (Int.toNat 250) = k := k1
      have y1 : s (Int.toNat 251) = j := j1
      have cO := w.cO
      have o1 : ∀ {d : Nat}, am_c X (d + 1) 146 [.ref 164, .int (iI 250)] h1 (fun r h' => r = some (.int (iI (V1 250 % 2))) ∧ h' = h1) := mw_odd w (by decide)
      have o2 : ∀ {d : Nat}, am_c X (d + 1) 146 [.ref 164, .int (iI 251)] h1 (fun r h' => r = some (.int (iI (V1 251 % 2))) ∧ h' = h1) := mw_odd w (by decide)
      by_cases z0 : V1 250 = 0
      ·
        refine wr_aload_n rfl rfl rfl ?_
        refine wr_get (ci := 12) (f := 1) rfl rfl rfl (by assumption) rfl ?_
        refine wr_sipush rfl rfl (by decide) ?_
        refine wr_iald rfl rfl (by assumption) (by omega) (by omega) ?_
        rw [x1]
        refine wr_if_le rfl rfl rfl (by omega) (fun c26 => ?_) (fun c26 => by exfalso; omega)
        refine wr_aload_n rfl rfl rfl ?_
        refine wr_get (ci := 12) (f := 1) rfl rfl rfl (by assumption) rfl ?_
        refine wr_sipush rfl rfl (by decide) ?_
        refine wr_iald rfl rfl (by assumption) (by omega) (by omega) ?_
        rw [x1]
        refine wr_if_ne rfl rfl rfl (by omega) (fun c173 => by exfalso; omega) (fun c173 => ?_)
        refine wr_aload_n rfl rfl rfl ?_
        refine wr_sipush rfl rfl (by decide) ?_
        refine wr_sipush rfl rfl (by decide) ?_
        refine wr_cv2 (k' := 145) (ci := 12) rfl rfl rfl rfl (by assumption) rfl rfl (mw_copyNumber (a := 250) (b := 251) w (by decide) (by decide) (by decide)) (fun r h2 q => ?_)
        obtain ⟨rfl, V2, w, s2, n2⟩ := rw_ex q
        refine wr_iconst rfl rfl ?_
        refine wr_istore (ls' := [_, _, _, _, _]) rfl rfl (Nat.le_of_ble_eq_true rfl) rfl ?_
        refine DL t 0 t V2 _ (by omega) tb w ?_ (fun n a b => by rw [n2 _ a, fn n a b])
        rw [s2, ← e1, z0, Int.gcd_zero_left, show ((V1 251).natAbs : Int) = V1 251 by omega]
      by_cases z1 : V1 251 = 0
      ·
        refine wr_aload_n rfl rfl rfl ?_
        refine wr_get (ci := 12) (f := 1) rfl rfl rfl (by assumption) rfl ?_
        refine wr_sipush rfl rfl (by decide) ?_
        refine wr_iald rfl rfl (by assumption) (by omega) (by omega) ?_
        rw [x1]
        refine wr_if_le rfl rfl rfl (by omega) (fun c26 => by exfalso; omega) (fun c26 => ?_)
        refine wr_aload_n rfl rfl rfl ?_
        refine wr_get (ci := 12) (f := 1) rfl rfl rfl (by assumption) rfl ?_
        refine wr_sipush rfl rfl (by decide) ?_
        refine wr_iald rfl rfl (by assumption) (by omega) (by omega) ?_
        rw [y1]
        refine wr_if_le rfl rfl rfl (by omega) (fun c37 => ?_) (fun c37 => by exfalso; omega)
        refine wr_aload_n rfl rfl rfl ?_
        refine wr_get (ci := 12) (f := 1) rfl rfl rfl (by assumption) rfl ?_
        refine wr_sipush rfl rfl (by decide) ?_
        refine wr_iald rfl rfl (by assumption) (by omega) (by omega) ?_
        rw [x1]
        refine wr_if_ne rfl rfl rfl (by omega) (fun c173 => ?_) (fun c173 => by exfalso; omega)
        refine wr_iconst rfl rfl ?_
        refine wr_istore (ls' := [_, _, _, _, _]) rfl rfl (Nat.le_of_ble_eq_true rfl) rfl ?_
        refine DL t 0 t V1 _ (by omega) tb w ?_ fn
        rw [← e1, z1, Int.gcd_zero_right, show ((V1 250).natAbs : Int) = V1 250 by omega]
      by_cases p0 : V1 250 % 2 = 0
      · by_cases p1 : V1 251 % 2 = 0
        ·
          refine wr_aload_n rfl rfl rfl ?_
          refine wr_get (ci := 12) (f := 1) rfl rfl rfl (by assumption) rfl ?_
          refine wr_sipush rfl rfl (by decide) ?_
          refine wr_iald rfl rfl (by assumption) (by omega) (by omega) ?_
          rw [x1]
          refine wr_if_le rfl rfl rfl (by omega) (fun c26 => by exfalso; omega) (fun c26 => ?_)
          refine wr_aload_n rfl rfl rfl ?_
          refine wr_get (ci := 12) (f := 1) rfl rfl rfl (by assumption) rfl ?_
          refine wr_sipush rfl rfl (by decide) ?_
          refine wr_iald rfl rfl (by assumption) (by omega) (by omega) ?_
          rw [y1]
          refine wr_if_le rfl rfl rfl (by omega) (fun c37 => by exfalso; omega) (fun c37 => ?_)
          refine wr_aload_n rfl rfl rfl ?_
          refine wr_sipush rfl rfl (by decide) ?_
          refine wr_cv1 (k' := 146) (ci := 12) rfl rfl rfl rfl (by assumption) rfl rfl (o1) (fun r h2 q => ?_)
          obtain ⟨rfl, rfl⟩ := q
          refine wr_if_ne rfl rfl rfl (by omega) (fun c47 => by exfalso; omega) (fun c47 => ?_)
          refine wr_aload_n rfl rfl rfl ?_
          refine wr_sipush rfl rfl (by decide) ?_
          refine wr_cv1 (k' := 146) (ci := 12) rfl rfl rfl rfl (by assumption) rfl rfl (o2) (fun r h2 q => ?_)
          obtain ⟨rfl, rfl⟩ := q
          refine wr_if_ne rfl rfl rfl (by omega) (fun c57 => by exfalso; omega) (fun c57 => ?_)
          refine wr_aload_n rfl rfl rfl ?_
          refine wr_sipush rfl rfl (by decide) ?_
          refine wr_cv1 (k' := 147) (ci := 12) rfl rfl rfl rfl (by assumption) rfl rfl (mw_halve (n := 250) w (by decide)) (fun r h2 q => ?_)
          obtain ⟨rfl, V2, w, s2, n2⟩ := rw_ex q
          have cO := w.cO
          refine wr_aload_n rfl rfl rfl ?_
          refine wr_sipush rfl rfl (by decide) ?_
          refine wr_cv1 (k' := 147) (ci := 12) rfl rfl rfl rfl (by assumption) rfl rfl (mw_halve (n := 251) w (by decide)) (fun r h2 q => ?_)
          obtain ⟨rfl, V3, w, s3, n3⟩ := rw_ex q
          refine wr_iinc (ls' := [_, _, _, _, _]) rfl rfl rfl rfl ?_
          refine wr_goto rfl rfl ?_
          rw [show (t : Int) + 1 = ((t + 1 : Nat) : Int) by omega]
          have f0 : V3 250 = V1 250 / 2 := by rw [n3 _ (by decide), s2]
          have f1 : V3 251 = V1 251 / 2 := by rw [s3, n2 _ (by decide)]
          refine ih (t + 1) V3 _ (by omega) w (by omega) ?_ (fun n a b => by rw [n3 _ b, n2 _ a, fn n a b])
          rw [f0, f1, ← e1, igcd_e2 n0 n1 p0 p1, Int.pow_succ]
          generalize (2 : Int) ^ t = P
          rw [Int.natCast_mul]
          grind
        ·
          refine wr_aload_n rfl rfl rfl ?_
          refine wr_get (ci := 12) (f := 1) rfl rfl rfl (by assumption) rfl ?_
          refine wr_sipush rfl rfl (by decide) ?_
          refine wr_iald rfl rfl (by assumption) (by omega) (by omega) ?_
          rw [x1]
          refine wr_if_le rfl rfl rfl (by omega) (fun c26 => by exfalso; omega) (fun c26 => ?_)
          refine wr_aload_n rfl rfl rfl ?_
          refine wr_get (ci := 12) (f := 1) rfl rfl rfl (by assumption) rfl ?_
          refine wr_sipush rfl rfl (by decide) ?_
          refine wr_iald rfl rfl (by assumption) (by omega) (by omega) ?_
          rw [y1]
          refine wr_if_le rfl rfl rfl (by omega) (fun c37 => by exfalso; omega) (fun c37 => ?_)
          refine wr_aload_n rfl rfl rfl ?_
          refine wr_sipush rfl rfl (by decide) ?_
          refine wr_cv1 (k' := 146) (ci := 12) rfl rfl rfl rfl (by assumption) rfl rfl (o1) (fun r h2 q => ?_)
          obtain ⟨rfl, rfl⟩ := q
          refine wr_if_ne rfl rfl rfl (by omega) (fun c47 => by exfalso; omega) (fun c47 => ?_)
          refine wr_aload_n rfl rfl rfl ?_
          refine wr_sipush rfl rfl (by decide) ?_
          refine wr_cv1 (k' := 146) (ci := 12) rfl rfl rfl rfl (by assumption) rfl rfl (o2) (fun r h2 q => ?_)
          obtain ⟨rfl, rfl⟩ := q
          refine wr_if_ne rfl rfl rfl (by omega) (fun c57 => ?_) (fun c57 => by exfalso; omega)
          refine wr_aload_n rfl rfl rfl ?_
          refine wr_sipush rfl rfl (by decide) ?_
          refine wr_cv1 (k' := 146) (ci := 12) rfl rfl rfl rfl (by assumption) rfl rfl (o1) (fun r h2 q => ?_)
          obtain ⟨rfl, rfl⟩ := q
          refine wr_if_ne rfl rfl rfl (by omega) (fun c87 => by exfalso; omega) (fun c87 => ?_)
          refine wr_aload_n rfl rfl rfl ?_
          refine wr_sipush rfl rfl (by decide) ?_
          refine wr_cv1 (k' := 147) (ci := 12) rfl rfl rfl rfl (by assumption) rfl rfl (mw_halve (n := 250) w (by decide)) (fun r h2 q => ?_)
          obtain ⟨rfl, V2, w, s2, n2⟩ := rw_ex q
          refine wr_goto rfl rfl ?_
          have f1 : V2 251 = V1 251 := by rw [n2 _ (by decide)]
          refine ih t V2 _ (by omega) w (by omega) ?_ (fun n a b => by rw [n2 _ a, fn n a b])
          rw [s2, f1, ← e1, igcd_el n0 n1 p0 (by omega)]
      ·
        refine wr_aload_n rfl rfl rfl ?_
        refine wr_get (ci := 12) (f := 1) rfl rfl rfl (by assumption) rfl ?_
        refine wr_sipush rfl rfl (by decide) ?_
        refine wr_iald rfl rfl (by assumption) (by omega) (by omega) ?_
        rw [x1]
        refine wr_if_le rfl rfl rfl (by omega) (fun c26 => by exfalso; omega) (fun c26 => ?_)
        refine wr_aload_n rfl rfl rfl ?_
        refine wr_get (ci := 12) (f := 1) rfl rfl rfl (by assumption) rfl ?_
        refine wr_sipush rfl rfl (by decide) ?_
        refine wr_iald rfl rfl (by assumption) (by omega) (by omega) ?_
        rw [y1]
        refine wr_if_le rfl rfl rfl (by omega) (fun c37 => by exfalso; omega) (fun c37 => ?_)
        refine wr_aload_n rfl rfl rfl ?_
        refine wr_sipush rfl rfl (by decide) ?_
        refine wr_cv1 (k' := 146) (ci := 12) rfl rfl rfl rfl (by assumption) rfl rfl (o1) (fun r h2 q => ?_)
        obtain ⟨rfl, rfl⟩ := q
        refine wr_if_ne rfl rfl rfl (by omega) (fun c47 => ?_) (fun c47 => by exfalso; omega)
        refine wr_aload_n rfl rfl rfl ?_
        refine wr_sipush rfl rfl (by decide) ?_
        refine wr_cv1 (k' := 146) (ci := 12) rfl rfl rfl rfl (by assumption) rfl rfl (o1) (fun r h2 q => ?_)
        obtain ⟨rfl, rfl⟩ := q
        refine wr_if_ne rfl rfl rfl (by omega) (fun c87 => ?_) (fun c87 => by exfalso; omega)
        refine wr_aload_n rfl rfl rfl ?_
        refine wr_sipush rfl rfl (by decide) ?_
        refine wr_cv1 (k' := 146) (ci := 12) rfl rfl rfl rfl (by assumption) rfl rfl (o2) (fun r h2 q => ?_)
        obtain ⟨rfl, rfl⟩ := q
        by_cases p1 : V1 251 % 2 = 0
        ·
          refine wr_if_ne rfl rfl rfl (by omega) (fun c107 => by exfalso; omega) (fun c107 => ?_)
          refine wr_aload_n rfl rfl rfl ?_
          refine wr_sipush rfl rfl (by decide) ?_
          refine wr_cv1 (k' := 147) (ci := 12) rfl rfl rfl rfl (by assumption) rfl rfl (mw_halve (n := 251) w (by decide)) (fun r h2 q => ?_)
          obtain ⟨rfl, V2, w, s2, n2⟩ := rw_ex q
          refine wr_goto rfl rfl ?_
          have f1 : V2 250 = V1 250 := by rw [n2 _ (by decide)]
          refine ih t V2 _ (by omega) w (by omega) ?_ (fun n a b => by rw [n2 _ b, fn n a b])
          rw [s2, f1, ← e1, igcd_er n0 n1 (by omega) p1]
        ·
          refine wr_if_ne rfl rfl rfl (by omega) (fun c107 => ?_) (fun c107 => by exfalso; omega)
          refine wr_aload_n rfl rfl rfl ?_
          refine wr_sipush rfl rfl (by decide) ?_
          refine wr_sipush rfl rfl (by decide) ?_
          refine wr_cv2 (k' := 149) (ci := 12) rfl rfl rfl rfl (by assumption) rfl rfl (mw_compare (a := 250) (b := 251) w (by decide) (by decide)) (fun r h2 q => ?_)
          obtain ⟨rfl, rfl⟩ := q
          have cc := cmpI_cases (V1 250) (V1 251)
          by_cases ge : V1 251 ≤ V1 250
          ·
            refine wr_if_lt rfl rfl rfl (by omega) (fun c130 => by exfalso; omega) (fun c130 => ?_)
            refine wr_aload_n rfl rfl rfl ?_
            refine wr_sipush rfl rfl (by decide) ?_
            refine wr_sipush rfl rfl (by decide) ?_
            refine wr_sipush rfl rfl (by decide) ?_
            refine wr_cv3 (k' := 150) (ci := 12) rfl rfl rfl rfl (by assumption) rfl rfl (mw_take (t := 250) (a := 250) (b := 251) w (by decide) (by decide) (by decide) ge) (fun r h2 q => ?_)
            obtain ⟨rfl, V2, w, s2, n2⟩ := rw_ex q
            refine wr_goto rfl rfl ?_
            have f1 : V2 251 = V1 251 := by rw [n2 _ (by decide)]
            refine ih t V2 _ (by omega) w (by omega) ?_ (fun n a b => by rw [n2 _ a, fn n a b])
            rw [s2, f1, ← e1, igcd_sl n0 n1 ge]
          ·
            refine wr_if_lt rfl rfl rfl (by omega) (fun c130 => ?_) (fun c130 => by exfalso; omega)
            refine wr_aload_n rfl rfl rfl ?_
            refine wr_sipush rfl rfl (by decide) ?_
            refine wr_sipush rfl rfl (by decide) ?_
            refine wr_sipush rfl rfl (by decide) ?_
            refine wr_cv3 (k' := 150) (ci := 12) rfl rfl rfl rfl (by assumption) rfl rfl (mw_take (t := 251) (a := 251) (b := 250) w (by decide) (by decide) (by decide) (by omega)) (fun r h2 q => ?_)
            obtain ⟨rfl, V2, w, s2, n2⟩ := rw_ex q
            refine wr_goto rfl rfl ?_
            have f1 : V2 250 = V1 250 := by rw [n2 _ (by decide)]
            refine ih t V2 _ (by omega) w (by omega) ?_ (fun n a b => by rw [n2 _ b, fn n a b])
            rw [s2, f1, ← e1, igcd_sr n0 n1 (by omega)]
  have cO := w.cO
  refine am_c.of (Nat.le_of_ble_eq_true rfl) ?_
  show am_w _ _ _ (_, [_, _, _, _, _], _, _) _
  refine wr_aload_n rfl rfl rfl ?_
  refine wr_sipush rfl rfl (by decide) ?_
  refine wr_iload_n rfl rfl rfl ?_
  refine wr_cv2 (k' := 145) (ci := 12) rfl rfl rfl rfl (by assumption) rfl rfl (mw_copyNumber (a := 250) (b := a) w (by decide) (by omega) (by omega)) (fun r h2 q => ?_)
  obtain ⟨rfl, V2, w, s2, n2⟩ := rw_ex q
  have cO := w.cO
  refine wr_aload_n rfl rfl rfl ?_
  refine wr_sipush rfl rfl (by decide) ?_
  refine wr_iload_n rfl rfl rfl ?_
  refine wr_cv2 (k' := 145) (ci := 12) rfl rfl rfl rfl (by assumption) rfl rfl (mw_copyNumber (a := 251) (b := b) w (by decide) (by omega) (by omega)) (fun r h2 q => ?_)
  obtain ⟨rfl, V3, w, s3, n3⟩ := rw_ex q
  refine wr_iconst rfl rfl ?_
  refine wr_istore_n (ls' := [_, _, _, _, _]) rfl rfl (Nat.le_of_ble_eq_true rfl) rfl ?_
  have f0 : V3 250 = V a := by rw [n3 _ (by decide), s2]
  have f1 : V3 251 = V b := by rw [s3, n2 _ (by omega)]
  exact L (V a + V b).toNat 0 V3 _ (by omega) w (by omega) (by rw [f0, f1, eD]; exact Int.mul_one _) (fun n a b => by rw [n3 _ b, n2 _ a])
/-- what reduce leaves -/
def redQ (h0 : am_H) (o V S : Nat → Int) (A : Nat → Nat → Int) (f : Nat) (q : Rat) : Option Value → am_H → Prop := fun r h' => r = none ∧ ∃ V' S', RW h0 h' o V' (updA A 167 S') ∧ V' (2 * f) = (q.num.natAbs : Int) ∧ V' (2 * f + 1) = (q.den : Int) ∧ S' f = q.num.sign ∧ (∀ n, n < 250 → n ≠ 2 * f → n ≠ 2 * f + 1 → V' n = V n) ∧ ∀ g, g ≠ f → S' g = S g
theorem updA_u (A : Nat → Nat → Int) (p : Nat) (f g : Nat → Int) : updA (updA A p f) p g = updA A p g := by
  funext j
  unfold updA
  split <;> rfl
theorem RW.setG (w : RW h0 h o V (updA A 167 S)) (S' : Nat → Int) : h[167]? = some (am_ia 130 S) ∧ RW h0 (h.set 167 (am_ia 130 S')) o V (updA A 167 S') := by
  obtain ⟨l, s, w, R⟩ := w
  have c := w.ar (167, 130) (by decide)
  simp only [updA_s] at c
  have w := w.setA (p := 167) (n := 130) (by decide) S'
  rw [updA_u] at w
  exact ⟨c, l, s, w, R⟩
theorem mw_reduce0 {d f : Nat} (w : RW h0 h o V (updA A 167 S)) (hf : f < 130) (z : V (2 * f) = 0) : am_c X (d + 2) 143 [.ref 164, .int (iI f)] h (fun r h' => r = none ∧ RW h0 h' o (updI V (2 * f + 1) 1) (updA A 167 (updI S f 0))) := by
  obtain ⟨s, cS, sz⟩ := w.size
  obtain ⟨k, k1, k2, k3⟩ := sz (2 * f) (by omega)
  have cO := w.cO
  have cG := (w.setG S).1
  have ix : 2 * (f : Int) = ((2 * f : Nat) : Int) := by omega
  have ix1 : 2 * (f : Int) + 1 = ((2 * f + 1 : Nat) : Int) := by omega
  refine am_c.of (Nat.le_of_ble_eq_true rfl) ?_
  show am_w _ _ _ (_, [_, _], _, _) _
  refine wr_aload_n rfl rfl rfl ?_
  refine wr_get (ci := 12) (f := 1) rfl rfl rfl (by assumption) rfl ?_
  refine wr_iconst rfl rfl ?_
  refine wr_iload_n rfl rfl rfl ?_
  refine wr_imul rfl rfl ?_
  rw [ix]
  refine wr_iald rfl rfl (by assumption) (by omega) (by omega) ?_
  rw [Int.toNat_natCast, k1]
  refine wr_if_ne rfl rfl rfl (by omega) (fun c8 => by exfalso; omega) (fun c8 => ?_)
  refine wr_aload_n rfl rfl rfl ?_
  refine wr_get (ci := 12) (f := 2) rfl rfl rfl (by assumption) rfl ?_
  refine wr_iload_n rfl rfl rfl ?_
  refine wr_iconst rfl rfl ?_
  refine wr_iast rfl rfl (by assumption) (by omega) (by omega) (fun h1 e1 => ?_)
  rw [Int.toNat_natCast] at e1
  have w := e1 ▸ (w.setG (updI S f 0)).2
  clear e1
  have cO := w.cO
  refine wr_aload_n rfl rfl rfl ?_
  refine wr_iconst rfl rfl ?_
  refine wr_iload_n rfl rfl rfl ?_
  refine wr_imul rfl rfl ?_
  refine wr_iconst rfl rfl ?_
  refine wr_iadd rfl rfl ?_
  rw [ix]
  refine wr_lconst (z := 1) rfl rfl rfl ?_
  refine wr_cv2 (k' := 142) (ci := 12) rfl rfl rfl rfl (by assumption) rfl rfl (mw_setNumber (n := 2 * f + 1) (v := 1) w (by omega) (by decide)) (fun r h2 q => ?_)
  obtain ⟨rfl, w⟩ := q
  refine wr_vret rfl rfl ?_
  exact ⟨rfl, w⟩
end RF3
