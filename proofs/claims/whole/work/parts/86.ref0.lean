/-! THE REFERENCE: its cells (164 on), its numbers as registers -/
abbrev mCell (o : Nat → Int) : va_E := .inr (12, [.ref 165, .ref 166, .ref 167, .ref 168, .int (iI (o 4)), .int (iI (o 5)), .int (iI (o 6)), .ref 169, .ref 170, .ref 171, .ref 172, .ref 173, .int (iI (o 12)), .int (iI (o 13)), .int (iI (o 14)), .ref 174, .int (iI (o 16)), .ref 175, .ref 176, .int (iI (o 19)), .int (iI (o 20)), .int (iI (o 21)), .ref 177, .int (iI (o 23)), .ref 178, .int (iI (o 25)), .ref 179, .int (iI (o 27)), .ref 180, .int (iI (o 29)), .long (lI (o 30)), .long (lI (o 31)), .int (iI (o 32)), .int (iI (o 33)), .int (iI (o 34)), .int (iI (o 35)), .long (lI (o 36)), .int (iI (o 37)), .ref 181])
/-- its rows but limbs, sizes and ends: place and length -/
def LA : List (Nat × Nat) := [(167, 130), (168, 400), (169, 300), (170, 300), (171, 300), (172, 300), (173, 14), (174, 8), (175, 12), (176, 12), (177, 3), (178, 26), (180, 24), (181, 20)]
def updA (A : Nat → Nat → Int) (p : Nat) (f : Nat → Int) : Nat → Nat → Int := fun j => if j = p then f else A j
theorem updA_s (A : Nat → Nat → Int) (p : Nat) (f : Nat → Int) : updA A p f p = f := by simp [updA]
theorem updA_n {A : Nat → Nat → Int} {p j : Nat} {f : Nat → Int} (h : j ≠ p) : updA A p f j = A j := by simp [updA, h]
def MW (h0 h : am_H) (o l s : Nat → Int) (A : Nat → Nat → Int) : Prop :=
  (frI [(164, 181)] h0 h) ∧
  (h[164]? = some (mCell o)) ∧
  (h[165]? = some (am_ia 67600 l)) ∧
  (h[166]? = some (am_ia 260 s)) ∧
  (h[179]? = some (am_za 3 (A 179))) ∧
  (∀ p ∈ LA, h[p.1]? = some (am_ia p.2 (A p.1)))
theorem MW.fr {h0 h : am_H} {o l s : Nat → Int} {A : Nat → Nat → Int} (zz : MW h0 h o l s A) : frI [(164, 181)] h0 h := zz.1
theorem MW.ob {h0 h : am_H} {o l s : Nat → Int} {A : Nat → Nat → Int} (zz : MW h0 h o l s A) : h[164]? = some (mCell o) := zz.2.1
theorem MW.li {h0 h : am_H} {o l s : Nat → Int} {A : Nat → Nat → Int} (zz : MW h0 h o l s A) : h[165]? = some (am_ia 67600 l) := zz.2.2.1
theorem MW.sz {h0 h : am_H} {o l s : Nat → Int} {A : Nat → Nat → Int} (zz : MW h0 h o l s A) : h[166]? = some (am_ia 260 s) := zz.2.2.2.1
theorem MW.en {h0 h : am_H} {o l s : Nat → Int} {A : Nat → Nat → Int} (zz : MW h0 h o l s A) : h[179]? = some (am_za 3 (A 179)) := zz.2.2.2.2.1
theorem MW.ar {h0 h : am_H} {o l s : Nat → Int} {A : Nat → Nat → Int} (zz : MW h0 h o l s A) : ∀ p ∈ LA, h[p.1]? = some (am_ia p.2 (A p.1)) := zz.2.2.2.2.2
theorem LA_ok : ∀ p ∈ LA, 167 ≤ p.1 ∧ p.1 ≤ 181 ∧ p.1 ≠ 179 := by decide
theorem LA_un : ∀ p ∈ LA, ∀ q ∈ LA, p.1 = q.1 → p = q := by decide
def blk (l : Nat → Int) (n : Nat) : Nat → Int := fun i => l (260 * n + i)
/-- register n holds v -/
def regN (l s : Nat → Int) (n : Nat) (v : Int) : Prop := ∃ k : Nat, s n = k ∧ k ≤ 260 ∧ nok (blk l n) k ∧ nv (blk l n) k = v
def regs (l s V : Nat → Int) : Prop := ∀ n, n < 260 → regN l s n (V n)
/-- but for register n nothing has changed -/
def agr (n : Nat) (l s l1 s1 : Nat → Int) : Prop := ∀ p, p < 260 → p ≠ n → s1 p = s p ∧ ∀ j, j < 260 → l1 (260 * p + j) = l (260 * p + j)
theorem agr_rf (n : Nat) (l s : Nat → Int) : agr n l s l s := fun _ _ _ => ⟨rfl, fun _ _ => rfl⟩
theorem agr.limb {n i : Nat} {l s l1 s1 : Nat → Int} {x : Int} (a : agr n l s l1 s1) (hi : i < 260) : agr n l s (updI l1 (260 * n + i) x) s1 := fun p hp hn => ⟨(a p hp hn).1, fun j hj => by rw [updI_n (by omega)]; exact (a p hp hn).2 j hj⟩
theorem agr.size {n : Nat} {l s l1 s1 : Nat → Int} {x : Int} (a : agr n l s l1 s1) : agr n l s l1 (updI s1 n x) := fun p hp hn => ⟨by rw [updI_n hn]; exact (a p hp hn).1, (a p hp hn).2⟩
theorem regs.set {n : Nat} {l s l1 s1 V : Nat → Int} {v : Int} (R : regs l s V) (a : agr n l s l1 s1) (h : regN l1 s1 n v) : regs l1 s1 (updI V n v) := by
  intro p hp
  by_cases e : p = n
  · subst e; rw [updI_s]; exact h
  · rw [updI_n e]
    obtain ⟨k, k1, k2, k3, k4⟩ := R p hp
    have c : ∀ i, i < k → blk l1 p i = blk l p i := fun i hi => (a p hp e).2 i (by omega)
    exact ⟨k, by rw [(a p hp e).1]; exact k1, k2, nok_congr k3 c, by rw [nv_congr c]; exact k4⟩
theorem blk_upd {l : Nat → Int} {n i : Nat} {x : Int} : blk (updI l (260 * n + i) x) n = updI (blk l n) i x := by
  funext j
  unfold blk updI
  by_cases e : j = i
  · rw [if_pos e, if_pos (by omega)]
  · rw [if_neg e, if_neg (by omega)]
def RW (h0 h : am_H) (o V : Nat → Int) (A : Nat → Nat → Int) : Prop := ∃ l s, MW h0 h o l s A ∧ regs l s V
section REF
variable {X : Nat × (Nat → Int32)} {h0 h h' : am_H} {o l s V : Nat → Int} {A : Nat → Nat → Int}
theorem m_fr {p : Nat} {c : va_E} (f : frI [(164, 181)] h0 h) (hp : 164 ≤ p ∧ p ≤ 181) : frI [(164, 181)] h0 (h.set p c) := frI_tr f (frI_set hp)
theorem MW.setL (w : MW h0 h o l s A) (l' : Nat → Int) : MW h0 (h.set 165 (am_ia 67600 l')) o l' s A := by
  obtain ⟨fr, ob, li, sz, en, ar⟩ := w
  exact ⟨m_fr fr (by omega), by rw [am_set_n (by omega)]; exact ob, am_set_s li, by rw [am_set_n (by omega)]; exact sz, by rw [am_set_n (by omega)]; exact en, fun p hp => by have := LA_ok p hp; rw [am_set_n (by omega)]; exact ar p hp⟩
theorem MW.setS (w : MW h0 h o l s A) (s' : Nat → Int) : MW h0 (h.set 166 (am_ia 260 s')) o l s' A := by
  obtain ⟨fr, ob, li, sz, en, ar⟩ := w
  exact ⟨m_fr fr (by omega), by rw [am_set_n (by omega)]; exact ob, by rw [am_set_n (by omega)]; exact li, am_set_s sz, by rw [am_set_n (by omega)]; exact en, fun p hp => by have := LA_ok p hp; rw [am_set_n (by omega)]; exact ar p hp⟩
theorem MW.setO (w : MW h0 h o l s A) (o' : Nat → Int) : MW h0 (h.set 164 (mCell o')) o' l s A := by
  obtain ⟨fr, ob, li, sz, en, ar⟩ := w
  exact ⟨m_fr fr (by omega), am_set_s ob, by rw [am_set_n (by omega)]; exact li, by rw [am_set_n (by omega)]; exact sz, by rw [am_set_n (by omega)]; exact en, fun p hp => by have := LA_ok p hp; rw [am_set_n (by omega)]; exact ar p hp⟩
theorem MW.setA {p n : Nat} (w : MW h0 h o l s A) (hp : (p, n) ∈ LA) (f : Nat → Int) : MW h0 (h.set p (am_ia n f)) o l s (updA A p f) := by
  have k := LA_ok _ hp
  simp only at k
  obtain ⟨fr, ob, li, sz, en, ar⟩ := w
  refine ⟨m_fr fr (by omega), by rw [am_set_n (by omega)]; exact ob, by rw [am_set_n (by omega)]; exact li, by rw [am_set_n (by omega)]; exact sz, by rw [am_set_n (by omega), updA_n (by omega)]; exact en, fun q hq => ?_⟩
  by_cases e : q.1 = p
  · have := LA_un q hq _ hp e
    subst this
    simp only [updA_s]
    exact am_set_s (ar _ hp)
  · rw [am_set_n (fun z => e z.symm), updA_n e]
    exact ar q hq
theorem MW.setE (w : MW h0 h o l s A) (f : Nat → Int) : MW h0 (h.set 179 (am_za 3 f)) o l s (updA A 179 f) := by
  obtain ⟨fr, ob, li, sz, en, ar⟩ := w
  exact ⟨m_fr fr (by omega), by rw [am_set_n (by omega)]; exact ob, by rw [am_set_n (by omega)]; exact li, by rw [am_set_n (by omega)]; exact sz, by rw [updA_s]; exact am_set_s en, fun p hp => by have := LA_ok p hp; rw [am_set_n (by omega), updA_n (by omega)]; exact ar p hp⟩
theorem mw_setNumber {d n : Nat} {v : Int} (w : RW h0 h o V A) (hn : n < 260) (hv : 0 ≤ v ∧ v ≤ 9223372036854775807) : am_c X (d + 1) 142 [.ref 164, .int (iI n), .long (lI v)] h (fun r h' => r = none ∧ RW h0 h' o (updI V n v) A) := by
  obtain ⟨l, s, w, R⟩ := w
  have L : ∀ (m k : Nat) (l1 s1 : Nat → Int) (h1 : am_H) (r : Int), k + m = 4 → 0 ≤ r → r < 1000000000 ^ m → r ≤ 9223372036854775807 → nv (blk l1 n) k + r * 1000000000 ^ k = v → (∀ i, i < k → 0 ≤ blk l1 n i ∧ blk l1 n i < 1000000000) → (r = 0 → 0 < k → blk l1 n (k - 1) ≠ 0) → s1 n = k → agr n l s l1 s1 → MW h0 h1 o l1 s1 A → am_w X d 142 (10, [.ref 164, .int (iI n), .long (lI v), am_U, .long (lI r), am_U], [], h1) (fun r h' => r = none ∧ RW h0 h' o (updI V n v) A) := by
    intro m
    induction m with
    | zero =>
      intro k l1 s1 h1 r hk r0 rB rM hv hg hz sk ag w
      have rz : r = 0 := by rw [show (1000000000 : Int) ^ 0 = 1 from rfl] at rB; omega
      subst rz
      refine wr_lload rfl rfl rfl ?_
      refine wr_lconst (z := 0) rfl rfl rfl ?_
      refine wr_l_le rfl rfl rfl rfl rfl (by omega) (by omega) (fun c13 => ?_) (fun c13 => by exfalso; omega)
      refine wr_vret rfl rfl ?_
      exact ⟨rfl, l1, s1, w, R.set ag ⟨k, sk, by omega, ⟨hg, fun q => hz rfl q⟩, by omega⟩⟩
    | succ m ih =>
      intro k l1 s1 h1 r hk r0 rB rM hv hg hz sk ag w
      by_cases rz : r = 0
      · subst rz
        refine wr_lload rfl rfl rfl ?_
        refine wr_lconst (z := 0) rfl rfl rfl ?_
        refine wr_l_le rfl rfl rfl rfl rfl (by omega) (by omega) (fun c13 => ?_) (fun c13 => by exfalso; omega)
        refine wr_vret rfl rfl ?_
        exact ⟨rfl, l1, s1, w, R.set ag ⟨k, sk, by omega, ⟨hg, fun q => hz rfl q⟩, by omega⟩⟩
      · have e2 : r = 1000000000 * (r / 1000000000) + r % 1000000000 := (Int.mul_ediv_add_emod r 1000000000).symm
        have ix : (260 * (n : Int) + (k : Int)) = ((260 * n + k : Nat) : Int) := by omega
        have cO := w.ob
        have cL := w.li
        have cS := w.sz
        refine wr_lload rfl rfl rfl ?_
        refine wr_lconst (z := 0) rfl rfl rfl ?_
        refine wr_l_le rfl rfl rfl rfl rfl (by omega) (by omega) (fun c13 => by exfalso; omega) (fun c13 => ?_)
        refine wr_aload_n rfl rfl rfl ?_
        refine wr_get (ci := 12) (f := 0) rfl rfl rfl (by assumption) rfl ?_
        refine wr_sipush rfl rfl (by decide) ?_
        refine wr_iload_n rfl rfl rfl ?_
        refine wr_imul rfl rfl ?_
        refine wr_aload_n rfl rfl rfl ?_
        refine wr_get (ci := 12) (f := 1) rfl rfl rfl (by assumption) rfl ?_
        refine wr_iload_n rfl rfl rfl ?_
        refine wr_iald rfl rfl (by assumption) (by omega) (by omega) ?_
        rw [Int.toNat_natCast, sk]
        refine wr_iadd rfl rfl ?_
        refine wr_lload rfl rfl rfl ?_
        refine wr_ldc2 (z := 1000000000) rfl rfl rfl (by decide) ?_
        refine wr_lremN rfl rfl (by omega) (by omega) (by omega) (by omega) ?_
        refine wr_l2i rfl rfl ?_
        rw [ix]
        refine wr_iast rfl rfl (by assumption) (by omega) (by omega) (fun h1 e1 => ?_)
        rw [Int.toNat_natCast] at e1
        have w := e1 ▸ w.setL (updI l1 (260 * n + k) (r % 1000000000))
        clear e1
        have cO := w.ob
        have cL := w.li
        have cS := w.sz
        refine wr_lload rfl rfl rfl ?_
        refine wr_ldc2 (z := 1000000000) rfl rfl rfl (by decide) ?_
        refine wr_ldivN rfl rfl (by omega) (by omega) (by omega) (by omega) ?_
        refine wr_lstore (ls' := [_, _, _, _, _, _]) rfl rfl (Nat.le_of_ble_eq_true rfl) rfl ?_
        refine wr_aload_n rfl rfl rfl ?_
        refine wr_get (ci := 12) (f := 1) rfl rfl rfl (by assumption) rfl ?_
        refine wr_iload_n rfl rfl rfl ?_
        refine wr_dup2_ri rfl rfl ?_
        refine wr_iald rfl rfl (by assumption) (by omega) (by omega) ?_
        rw [Int.toNat_natCast, sk]
        refine wr_iconst rfl rfl ?_
        refine wr_iadd rfl rfl ?_
        refine wr_iast rfl rfl cS (by omega) (by omega) (fun h2 e1 => ?_)
        rw [Int.toNat_natCast] at e1
        have w := e1 ▸ w.setS (updI s1 n ((k : Int) + 1))
        clear e1
        refine wr_goto rfl rfl ?_
        refine ih (k + 1) _ _ _ (r / 1000000000) (by omega) (by omega) ?_ (by omega) ?_ ?_ ?_ (by rw [updI_s]; omega) ((ag.limb (by omega)).size) w
        · rw [Int.pow_succ] at rB
          exact (Int.ediv_lt_iff_lt_mul (by decide)).mpr (by omega)
        · rw [blk_upd, nv_upd, ← hv, Int.pow_succ]
          generalize (1000000000 : Int) ^ k = p
          generalize r / 1000000000 = q at e2 ⊢
          generalize r % 1000000000 = t at e2 ⊢
          subst e2
          grind
        · intro i hi
          rw [blk_upd]
          by_cases e : i = k
          · subst e; rw [updI_s]; omega
          · rw [updI_n e]; exact hg i (by omega)
        · intro q _
          rw [blk_upd, Nat.add_sub_cancel, updI_s]
          omega
  have cO := w.ob
  have cL := w.li
  have cS := w.sz
  refine am_c.of (Nat.le_of_ble_eq_true rfl) ?_
  show am_w _ _ _ (_, [_, _, _, _, _, _], _, _) _
  refine wr_lload_n rfl rfl rfl ?_
  refine wr_lstore (ls' := [_, _, _, _, _, _]) rfl rfl (Nat.le_of_ble_eq_true rfl) rfl ?_
  refine wr_aload_n rfl rfl rfl ?_
  refine wr_get (ci := 12) (f := 1) rfl rfl rfl (by assumption) rfl ?_
  refine wr_iload_n rfl rfl rfl ?_
  refine wr_iconst rfl rfl ?_
  refine wr_iast rfl rfl (by assumption) (by omega) (by omega) (fun h1 e1 => ?_)
  rw [Int.toNat_natCast] at e1
  have w := e1 ▸ w.setS (updI s n 0)
  clear e1
  refine L 4 0 l _ _ v (by omega) hv.1 ?_ hv.2 (by show 0 + v * 1 = v; omega) (fun i hi => by omega) (fun _ q => by omega) (by rw [updI_s]; rfl) ((agr_rf n l s).size) w
  rw [show (1000000000 : Int) ^ 4 = 1000000000000000000000000000000000000 by decide]
  omega
theorem mw_copyNumber {d a b : Nat} (w : RW h0 h o V A) (ha : a < 260) (hb : b < 260) (hne : a ≠ b) : am_c X (d + 1) 145 [.ref 164, .int (iI a), .int (iI b)] h (fun r h' => r = none ∧ RW h0 h' o (updI V a (V b)) A) := by
  obtain ⟨l, s, w, R⟩ := w
  obtain ⟨k, k1, k2, k3, k4⟩ := R b hb
  have L : ∀ (m i : Nat) (l1 : Nat → Int) (h1 : am_H), i + m = k → (∀ j, j < i → blk l1 a j = blk l b j) → agr a l s l1 s → MW h0 h1 o l1 s A → am_w X d 145 (2, [.ref 164, .int (iI a), .int (iI b), .int (iI i)], [], h1) (fun r h' => r = none ∧ RW h0 h' o (updI V a (V b)) A) := by
    intro m
    induction m with
    | zero =>
      intro i l1 h1 hi hj ag w
      have cO := w.ob
      have cL := w.li
      have cS := w.sz
      refine wr_iload_n rfl rfl rfl ?_
      refine wr_aload_n rfl rfl rfl ?_
      refine wr_get (ci := 12) (f := 1) rfl rfl rfl (by assumption) rfl ?_
      refine wr_iload_n rfl rfl rfl ?_
      refine wr_iald rfl rfl (by assumption) (by omega) (by omega) ?_
      rw [Int.toNat_natCast, k1]
      refine wr_icmp_ge rfl rfl rfl (by omega) (by omega) (fun c9 => ?_) (fun c9 => by exfalso; omega)
      refine wr_aload_n rfl rfl rfl ?_
      refine wr_get (ci := 12) (f := 1) rfl rfl rfl (by assumption) rfl ?_
      refine wr_iload_n rfl rfl rfl ?_
      refine wr_aload_n rfl rfl rfl ?_
      refine wr_get (ci := 12) (f := 1) rfl rfl rfl (by assumption) rfl ?_
      refine wr_iload_n rfl rfl rfl ?_
      refine wr_iald rfl rfl (by assumption) (by omega) (by omega) ?_
      rw [Int.toNat_natCast, k1]
      refine wr_iast rfl rfl (by assumption) (by omega) (by omega) (fun h1 e1 => ?_)
      rw [Int.toNat_natCast] at e1
      have w := e1 ▸ w.setS (updI s a (k : Int))
      refine wr_vret rfl rfl ?_
      have cg : ∀ j, j < k → blk l1 a j = blk l b j := fun j q => hj j (by omega)
      exact ⟨rfl, l1, _, w, R.set (ag.size) ⟨k, updI_s _ _ _, k2, nok_congr k3 cg, by rw [nv_congr cg]; exact k4⟩⟩
    | succ m ih =>
      intro i l1 h1 hi hj ag w
      have ix1 : (260 * (a : Int) + (i : Int)) = ((260 * a + i : Nat) : Int) := by omega
      have ix2 : (260 * (b : Int) + (i : Int)) = ((260 * b + i : Nat) : Int) := by omega
      have src : l1 (260 * b + i) = l (260 * b + i) := (ag b hb (fun q => hne q.symm)).2 i (by omega)
      have cO := w.ob
      have cL := w.li
      have cS := w.sz
      refine wr_iload_n rfl rfl rfl ?_
      refine wr_aload_n rfl rfl rfl ?_
      refine wr_get (ci := 12) (f := 1) rfl rfl rfl (by assumption) rfl ?_
      refine wr_iload_n rfl rfl rfl ?_
      refine wr_iald rfl rfl (by assumption) (by omega) (by omega) ?_
      rw [Int.toNat_natCast, k1]
      refine wr_icmp_ge rfl rfl rfl (by omega) (by omega) (fun c9 => by exfalso; omega) (fun c9 => ?_)
      refine wr_aload_n rfl rfl rfl ?_
      refine wr_get (ci := 12) (f := 0) rfl rfl rfl (by assumption) rfl ?_
      refine wr_sipush rfl rfl (by decide) ?_
      refine wr_iload_n rfl rfl rfl ?_
      refine wr_imul rfl rfl ?_
      refine wr_iload_n rfl rfl rfl ?_
      refine wr_iadd rfl rfl ?_
      rw [ix1]
      refine wr_aload_n rfl rfl rfl ?_
      refine wr_get (ci := 12) (f := 0) rfl rfl rfl (by assumption) rfl ?_
      refine wr_sipush rfl rfl (by decide) ?_
      refine wr_iload_n rfl rfl rfl ?_
      refine wr_imul rfl rfl ?_
      refine wr_iload_n rfl rfl rfl ?_
      refine wr_iadd rfl rfl ?_
      rw [ix2]
      refine wr_iald rfl rfl (by assumption) (by omega) (by omega) ?_
      rw [Int.toNat_natCast, src]
      refine wr_iast rfl rfl (by assumption) (by omega) (by omega) (fun h1 e1 => ?_)
      rw [Int.toNat_natCast] at e1
      have w := e1 ▸ w.setL (updI l1 (260 * a + i) (l (260 * b + i)))
      refine wr_iinc (ls' := [_, _, _, _]) rfl rfl rfl rfl ?_
      refine wr_goto rfl rfl ?_
      rw [show (i : Int) + 1 = ((i + 1 : Nat) : Int) by omega]
      refine ih (i + 1) _ _ (by omega) (fun j q => ?_) (ag.limb (by omega)) w
      rw [blk_upd]
      by_cases e : j = i
      · subst e; rw [updI_s]; rfl
      · rw [updI_n e]; exact hj j (by omega)
  refine am_c.of (Nat.le_of_ble_eq_true rfl) ?_
  show am_w _ _ _ (_, [_, _, _, _], _, _) _
  refine wr_iconst rfl rfl ?_
  refine wr_istore_n (ls' := [_, _, _, _]) rfl rfl (Nat.le_of_ble_eq_true rfl) rfl ?_
  exact L k 0 l h (by omega) (fun j q => by omega) (agr_rf _ _ _) w
end REF
