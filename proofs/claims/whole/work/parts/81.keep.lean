/-! THE CLASS: earthworks and keep -/
/-- a fraction that is not below 0, cut off -/
def flo (q : Rat) : Int := (q.num.natAbs : Int) / q.den
theorem flo_in {q : Rat} (h : cuB 36 q) : 0 ≤ flo q ∧ flo q ≤ 3600000000000000000000000 ∧ (q.num.natAbs : Int) ≤ 3600000000000000000000000 * q.den := by
  have n := num_le (M := 3600000000000000000000000) h.1 (by
    have e : (((36 : Nat) : Int) : Rat) * 100000000000000000000000 = ((3600000000000000000000000 : Int) : Rat) := by
      have : (((36 : Nat) : Int) : Rat) = 36 := rfl
      have y : ((3600000000000000000000000 : Int) : Rat) = 3600000000000000000000000 := rfl
      rw [this, y]
      grind
    rw [← e]
    exact h.2.1)
  have hd := q.den_pos
  unfold flo
  refine ⟨Int.ediv_nonneg (by omega) (by omega), ?_, n⟩
  exact Int.le_of_lt_add_one ((Int.ediv_lt_iff_lt_mul (by omega)).mpr (by omega))
section KEP
variable {X : Nat × (Nat → Int32)} {h0 h h' : am_H} {gn ws as : Nat} {go gl tk : Nat → Int} {wk ch st ix pl : Int} {S : Nat → Sq} {F : Nat → Rat} {W : Nat → Int}
theorem GW.ew {E : Nat} (w : GW h0 (h) gn go gl wk ch tk S ws st as ix pl F W) (hE : E = 131 ∨ E = 145) : h[E]? = some (.inr (cEw, [.ref (E + 1), .ref (E + 3), .ref (E + 5), .ref (E + 7), .ref (E + 9)])) := by
  rcases hE with rfl | rfl
  · exact w.e1
  · exact w.e2
theorem fr_W {f : Nat} (g : fr [f, f + 1] h h') : frI [(f, f + 1)] h h' := frI_fr g (fun i hi => ⟨(f, f + 1), by simp, by simp at hi; simp only; omega⟩)
theorem gw_putW {f : Nat} {q : Int} (w : GW h0 (h) gn go gl wk ch tk S ws st as ix pl F W) (hp : f ∈ LW) (hf : isW h' f (f + 1) 16 q) (g : fr [f, f + 1] h h') : GW h0 (h') gn go gl wk ch tk S ws st as ix pl F (updI W f q) := by
  have k := LW_ok _ hp
  exact w.setW hp hf (w.ar.keep (fr_W g) (by omega)) (frI_up (fr_W g))
theorem gw_ew {d E f : Nat} {q0 : Rat} {m v : Int} (w : GW h0 (h) gn go gl wk ch tk S ws st as ix pl F W) (hE : E = 131 ∨ E = 145) (hf : f = 96 ∨ f = 101) (eF : F f = q0) (cq : cuB 36 q0) (eV : F (E + 9) = (v : Rat)) (hv : 0 ≤ v ∧ v ≤ 1000000000000000000000000000000000000000) (hl : 0 ≤ W (E + 1) ∧ W (E + 1) ≤ 3600000000000000000000000) (hm : 0 ≤ m ∧ m ≤ 100000) : am_c X (d + 3) 136 [.ref E, .ref f, .long (lI m), .ref 22] h (fun r h' => r = none ∧ ∃ W', GW h0 (h') gn go gl wk ch tk S ws st as ix pl (updR F (E + 9) ((v + (W (E + 1) + flo q0) * (500 * m) : Int) : Rat)) (W') ∧ W' (E + 1) = flo q0 ∧ (∀ p, p ≠ E + 1 → p ≠ E + 3 → p ≠ E + 5 → p ≠ E + 7 → W' p = W p)) := by
  have mf : (f, 100) ∈ LF := by rcases hf with rfl | rfl <;> decide
  have l1 : E + 1 ∈ LW := by rcases hE with rfl | rfl <;> decide
  have l3 : E + 3 ∈ LW := by rcases hE with rfl | rfl <;> decide
  have l5 : E + 5 ∈ LW := by rcases hE with rfl | rfl <;> decide
  have l7 : E + 7 ∈ LW := by rcases hE with rfl | rfl <;> decide
  have mv : (E + 9, 16) ∈ LF := by rcases hE with rfl | rfl <;> decide
  have En : 131 ≤ E ∧ E ≤ 145 := by omega
  have fn : f = 96 ∨ f = 101 := hf
  have fq := flo_in cq
  have sz := cq.sz (by decide)
  have hd := q0.den_pos
  have b127 : (1000000000 : Int) ^ 97 ≤ 1000000000 ^ 127 := bp_mono (by decide)
  have B15 : (1000000000 : Int) ^ 15 = 1000000000000000000000000000000000000000000000000000000000000000000000000000000000000000000000000000000000000000000000000000000000000000 := by decide
  have B16 : (1000000000 : Int) ^ 15 ≤ 1000000000 ^ 16 := bp_mono (by decide)
  obtain ⟨vv, hvv⟩ := w.ar
  have A := w.ff _ mf
  rw [eF] at A
  dsimp only at A
  obtain ⟨a0, a1, a2⟩ := A
  have ca0 := w.arc
  unfold arCell at ca0
  have cE := w.ew hE
  have fit1 : (q0.num.natAbs : Int) < 1000000000 ^ (16 - 1) * (q0.den : Int) := by
    have x1 : (3600000000000000000000000 : Int) * q0.den < 1000000000 ^ 15 * q0.den := Int.mul_lt_mul_of_pos_right (by rw [B15]; decide) (by omega)
    exact Int.lt_of_le_of_lt fq.2.2 x1
  refine am_c.of (Nat.le_of_ble_eq_true rfl) ?_
  show am_w _ _ _ (_, [_, _, _, _, _], _, _) _
  refine wr_aload rfl rfl rfl ?_
  refine wr_aload_n rfl rfl rfl ?_
  refine wr_get (ci := 11) (f := 1) rfl rfl rfl (by assumption) rfl ?_
  refine wr_aload_n rfl rfl rfl ?_
  refine wr_get (ci := 8) (f := 1) rfl rfl rfl (by assumption) rfl ?_
  refine wr_aload_n rfl rfl rfl ?_
  refine wr_get (ci := 8) (f := 2) rfl rfl rfl (by assumption) rfl ?_
  refine wr_cv3 (k' := 89) (ci := 4) rfl rfl rfl rfl (by assumption) rfl rfl (ar_divX hvv (w.ww _ l3) a1 a2 (by omega) (by decide) (by decide) (by decide) (by omega) (by omega) (by omega) (Int.lt_of_lt_of_le sz.1 b127) (Int.lt_of_lt_of_le sz.2 b127) fit1) (fun r h2 q => ?_)
  obtain ⟨rfl, k1, ⟨v5, av5, -⟩, k2⟩ := q
  dsimp only [Option.toList, List.nil_append]
  have w := w.setW l3 k1 ⟨v5, av5⟩ (frI_A k2 ⟨(23, 44), by simp, by simp⟩ (fun i hi => ⟨(E + 3, E + 3 + 1), by simp, by simp at hi; simp only; omega⟩))
  obtain ⟨W1, e1⟩ : ∃ z, z = updI W (E + 3) (flo q0) := ⟨_, rfl⟩
  rw [show updI W (E + 3) ((q0.num.natAbs : Int) / (q0.den : Int)) = W1 from e1.symm] at w
  have w11 : W1 (E + 1) = W (E + 1) := by rw [e1, updI_n (by omega)]
  have w13 : W1 (E + 3) = flo q0 := by rw [e1, updI_s]
  have cE := w.ew hE
  obtain ⟨gx1, nx1, cx1, -⟩ := id (w.ww _ l1)
  refine wr_aload_n rfl rfl rfl ?_
  refine wr_get (ci := 11) (f := 0) rfl rfl rfl (by assumption) rfl ?_
  refine wr_aload_n rfl rfl rfl ?_
  refine wr_get (ci := 11) (f := 0) rfl rfl rfl (by assumption) rfl ?_
  refine wr_aload_n rfl rfl rfl ?_
  refine wr_get (ci := 11) (f := 1) rfl rfl rfl (by assumption) rfl ?_
  refine wr_cv2 (k' := 99) (ci := 5) rfl rfl rfl rfl (by assumption) rfl rfl (wp_sum (w.ww _ l1) (w.ww _ l1) (w.ww _ l3) (by decide) (by decide) (by decide) (by omega) (by rw [w11, w13]; have : (1000000000 : Int) ^ 15 ≤ 1000000000 ^ 16 := B16; rw [B15] at this; omega)) (fun r h2 q => ?_)
  obtain ⟨rfl, k1, k2⟩ := q
  dsimp only [Option.toList, List.nil_append]
  rw [w11, w13] at k1
  have w := gw_putW w l1 k1 k2
  obtain ⟨W2, e2⟩ : ∃ z, z = updI W1 (E + 1) (W (E + 1) + flo q0) := ⟨_, rfl⟩
  rw [← e2] at w
  have cE := w.ew hE
  obtain ⟨gx7, nx7, cx7, cl7, -⟩ := id (w.ww _ l7)
  have hd2 : m * 1000 / 2 = 500 * m := by omega
  refine wr_aload_n rfl rfl rfl ?_
  refine wr_get (ci := 11) (f := 3) rfl rfl rfl (by assumption) rfl ?_
  refine wr_lload_n rfl rfl rfl ?_
  refine wr_ldc2 (z := 1000) rfl rfl rfl (by decide) ?_
  refine wr_lmul rfl rfl ?_
  refine wr_ldc2 (z := 2) rfl rfl rfl (by decide) ?_
  refine wr_ldivN rfl rfl (by omega) (by omega) (by omega) (by omega) ?_
  rw [hd2]
  refine wr_cv1 (k' := 10) (ci := 5) rfl rfl rfl rfl (by assumption) rfl rfl (wp_put cx7 cl7 (by decide) (by omega) (by rw [show (1000000000 : Int) ^ 16 = 1000000000000000000000000000000000000000000000000000000000000000000000000000000000000000000000000000000000000000000000000000000000000000000000000 by decide]; omega)) (fun r h2 q => ?_)
  obtain ⟨rfl, k1, k2⟩ := q
  dsimp only [Option.toList, List.nil_append]
  have w := gw_putW w l7 k1 k2
  obtain ⟨W3, e3⟩ : ∃ z, z = updI W2 (E + 7) (500 * m) := ⟨_, rfl⟩
  rw [← e3] at w
  have w31 : W3 (E + 1) = W (E + 1) + flo q0 := by rw [e3, updI_n (by omega), e2, updI_s]
  have w37 : W3 (E + 7) = 500 * m := by rw [e3, updI_s]
  have pm := mulB (a := W (E + 1) + flo q0) (b := 500 * m) (A := 7200000000000000000000000) (B := 50000000) (by omega) (by omega)
  have p0 : 0 ≤ (W (E + 1) + flo q0) * (500 * m) := Int.mul_nonneg (by omega) (by omega)
  have cE := w.ew hE
  obtain ⟨gx5, nx5, cx5, -⟩ := id (w.ww _ l5)
  refine wr_aload_n rfl rfl rfl ?_
  refine wr_get (ci := 11) (f := 2) rfl rfl rfl (by assumption) rfl ?_
  refine wr_aload_n rfl rfl rfl ?_
  refine wr_get (ci := 11) (f := 0) rfl rfl rfl (by assumption) rfl ?_
  refine wr_aload_n rfl rfl rfl ?_
  refine wr_get (ci := 11) (f := 3) rfl rfl rfl (by assumption) rfl ?_
  refine wr_cv2 (k' := 97) (ci := 5) rfl rfl rfl rfl (by assumption) rfl rfl (wp_product (w.ww _ l5) (w.ww _ l1) (w.ww _ l7) (by decide) (by decide) (by decide) (by omega) (by omega) (by rw [w31, w37]; show _ < (1000000000 : Int) ^ 15; rw [B15]; omega)) (fun r h2 q => ?_)
  obtain ⟨rfl, k1, k2⟩ := q
  dsimp only [Option.toList, List.nil_append]
  rw [w31, w37] at k1
  have w := gw_putW w l5 k1 k2
  obtain ⟨W4, e4⟩ : ∃ z, z = updI W3 (E + 5) ((W (E + 1) + flo q0) * (500 * m)) := ⟨_, rfl⟩
  rw [← e4] at w
  have w45 : W4 (E + 5) = (W (E + 1) + flo q0) * (500 * m) := by rw [e4, updI_s]
  obtain ⟨P, eP⟩ : ∃ z, z = (W (E + 1) + flo q0) * (500 * m) := ⟨_, rfl⟩
  rw [← eP] at w45 pm p0 ⊢
  have V0 := w.ff _ mv
  rw [eV] at V0
  dsimp only at V0
  obtain ⟨v0, v1, v2⟩ := V0
  have nI : (((v : Rat).num.natAbs : Nat) : Int) = v := by rw [Rat.num_intCast]; omega
  have dI : (((v : Rat).den : Nat) : Int) = 1 := by rw [Rat.den_intCast]; rfl
  rw [nI] at v1
  rw [dI] at v2
  have cE := w.ew hE
  obtain ⟨gv1, nv1, cv1, -⟩ := id v1
  refine wr_aload_n rfl rfl rfl ?_
  refine wr_get (ci := 11) (f := 4) rfl rfl rfl (by assumption) rfl ?_
  refine wr_get (ci := 8) (f := 1) rfl rfl rfl (by assumption) rfl ?_
  refine wr_aload_n rfl rfl rfl ?_
  refine wr_get (ci := 11) (f := 4) rfl rfl rfl (by assumption) rfl ?_
  refine wr_get (ci := 8) (f := 1) rfl rfl rfl (by assumption) rfl ?_
  refine wr_aload_n rfl rfl rfl ?_
  refine wr_get (ci := 11) (f := 2) rfl rfl rfl (by assumption) rfl ?_
  refine wr_cv2 (k' := 99) (ci := 5) rfl rfl rfl rfl (by assumption) rfl rfl (wp_sum v1 v1 (w.ww _ l5) (by decide) (by decide) (by decide) (by omega) (by rw [w45]; have : (1000000000 : Int) ^ 15 ≤ 1000000000 ^ 16 := B16; rw [B15] at this; omega)) (fun r h2 q => ?_)
  obtain ⟨rfl, k1, k2⟩ := q
  dsimp only [Option.toList, List.nil_append]
  rw [w45] at k1
  have f5 : frI [(E + 9, E + 9 + 4)] _ h2 := frI_fr k2 (fun i hi => ⟨(E + 9, E + 9 + 4), by simp, by simp at hi; simp only; omega⟩)
  have v05 : h2[E + 9]? = some _ := (k2.2 (E + 9) (by simp)).trans v0
  have v25 := v2.kept k2 (by simp) (by simp)
  have cE : h2[E]? = some _ := (k2.2 E (by simp; omega)).trans (w.ew hE)
  obtain ⟨gk, nk, ck, ckl, kc, kn, kv⟩ := id k1
  have nz : (0 < nk ↔ 0 < v + P) := by
    constructor
    · intro q
      have := nv_low kn q
      have := bp_pos (nk - 1)
      omega
    · intro q
      refine Decidable.byContradiction fun y => ?_
      rw [show nk = 0 by omega] at kv
      have : nv gk 0 = 0 := rfl
      omega
  have nkb : nk ≤ 16 := kc
  have fin : ∀ (s : Int) (h3 : am_H), s = (((v + P : Int)) : Rat).num.sign → h3 = h2.set (E + 9) (.inr (cFr, [.int (iI s), .ref (E + 9 + 1), .ref (E + 9 + 3)])) → am_w X (d + 2) 136 (109, [.ref E, .ref f, .long (lI m), am_U, .ref 22], [], h3) (fun r h' => r = none ∧ ∃ W', GW h0 (h') gn go gl wk ch tk S ws st as ix pl (updR F (E + 9) ((v + P : Int) : Rat)) (W') ∧ W' (E + 1) = flo q0 ∧ (∀ p, p ≠ E + 1 → p ≠ E + 3 → p ≠ E + 5 → p ≠ E + 7 → W' p = W p)) := by
    intro s h3 es eh
    have n2 : ((((v + P : Int) : Rat).num.natAbs : Nat) : Int) = v + P := by rw [Rat.num_intCast]; omega
    have d2 : ((((v + P : Int) : Rat).den : Nat) : Int) = 1 := by rw [Rat.den_intCast]; rfl
    have iF : isF h3 (E + 9) 16 ((v + P : Int) : Rat) := by
      refine ⟨by rw [eh, ← es]; exact am_set_s v05, ?_, ?_⟩
      · rw [n2, eh]
        exact k1.kept fr_set1 (by simp) (by simp)
      · rw [d2, eh]
        exact v25.kept fr_set1 (by simp) (by simp)
    have f6 := frI_tr f5 (show frI [(E + 9, E + 9 + 4)] h2 h3 by rw [eh]; exact frI_set (by omega))
    have w := w.setF mv iF (w.ar.keep f6 (by omega)) (frI_up f6)
    have cE := w.ew hE
    obtain ⟨gx1, nx1, cx1, -⟩ := id (w.ww _ l1)
    have w43 : W4 (E + 3) = flo q0 := by rw [e4, updI_n (by omega), e3, updI_n (by omega), e2, updI_n (by omega), w13]
    refine wr_aload_n rfl rfl rfl ?_
    refine wr_get (ci := 11) (f := 0) rfl rfl rfl (by assumption) rfl ?_
    refine wr_aload_n rfl rfl rfl ?_
    refine wr_get (ci := 11) (f := 1) rfl rfl rfl (by assumption) rfl ?_
    refine wr_cv1 (k' := 87) (ci := 5) rfl rfl rfl rfl (by assumption) rfl rfl (wp_copy (w.ww _ l1) (w.ww _ l3) (by decide) (by decide) (by omega) (by rw [w43]; have : (1000000000 : Int) ^ 15 ≤ 1000000000 ^ 16 := B16; rw [B15] at this; omega)) (fun r h2 q => ?_)
    obtain ⟨rfl, k1, k2⟩ := q
    dsimp only [Option.toList, List.nil_append]
    rw [w43] at k1
    have w := gw_putW w l1 k1 k2
    refine wr_vret rfl rfl ?_
    refine ⟨rfl, _, w, updI_s _ _ _, fun p p1 p2 p3 p4 => ?_⟩
    rw [updI_n p1, e4, updI_n p3, e3, updI_n p4, e2, updI_n p1, e1, updI_n p2]
  by_cases vp : 0 < v + P
  · have sg : (((v + P : Int)) : Rat).num.sign = 1 := by rw [Rat.num_intCast]; exact Int.sign_eq_one_of_pos vp
    have np := nz.mpr vp
    refine wr_aload_n rfl rfl rfl ?_
    refine wr_get (ci := 11) (f := 4) rfl rfl rfl (by assumption) rfl ?_
    refine wr_aload_n rfl rfl rfl ?_
    refine wr_get (ci := 11) (f := 4) rfl rfl rfl (by assumption) rfl ?_
    refine wr_get (ci := 8) (f := 1) rfl rfl rfl (by assumption) rfl ?_
    refine wr_get (ci := 5) (f := 1) rfl rfl rfl (by assumption) rfl ?_
    refine wr_if_le rfl rfl rfl (by omega) (fun c98 => by exfalso; omega) (fun c98 => ?_)
    refine wr_iconst rfl rfl ?_
    refine wr_goto rfl rfl ?_
    refine wr_putI (ci := 8) (f := 0) (fs' := [_, _, _]) rfl rfl rfl (by assumption) rfl rfl rfl (fun h1 e1 => ?_)
    exact fin 1 h1 sg.symm e1
  · have sg : (((v + P : Int)) : Rat).num.sign = 0 := by rw [Rat.num_intCast, show v + P = 0 by omega]; rfl
    have np : ¬ 0 < nk := fun q => vp (nz.mp q)
    refine wr_aload_n rfl rfl rfl ?_
    refine wr_get (ci := 11) (f := 4) rfl rfl rfl (by assumption) rfl ?_
    refine wr_aload_n rfl rfl rfl ?_
    refine wr_get (ci := 11) (f := 4) rfl rfl rfl (by assumption) rfl ?_
    refine wr_get (ci := 8) (f := 1) rfl rfl rfl (by assumption) rfl ?_
    refine wr_get (ci := 5) (f := 1) rfl rfl rfl (by assumption) rfl ?_
    refine wr_if_le rfl rfl rfl (by omega) (fun c98 => ?_) (fun c98 => by exfalso; omega)
    refine wr_iconst rfl rfl ?_
    refine wr_putI (ci := 8) (f := 0) (fs' := [_, _, _]) rfl rfl rfl (by assumption) rfl rfl rfl (fun h1 e1 => ?_)
    exact fin 0 h1 sg.symm e1
end KEP
