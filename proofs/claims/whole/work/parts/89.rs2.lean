/-! THE REFERENCE WALKS: a side -/
section RSC
variable {X : Nat × (Nat → Int32)} {h0 h h' : am_H} {o o' o'' : Nat → Int} {A A' A'' : Nat → Nat → Int} {F F' F'' : Nat → Rat} {n ax : Nat} {off lev : Nat → Int} {sg : Int}
/-- the walk w of a side stands in the registers behind corner ax -/
def RKW (ax : Nat) (sg : Int) (w : WS) (o : Nat → Int) (F : Nat → Rat) (A : Nat → Nat → Int) : Prop := ((o 25 = (ax : Int) ∧ o 29 = sg) ∧ (o 30 = w.s.ou w.s.N ∧ o 31 = w.s.hi w.s.N) ∧ o 32 = (w.s.N : Int) ∧ o 33 = w.s.e) ∧ (o 27 = (w.ch : Int) ∧ ∀ k, k < w.ch → A 180 k = w.tk k) ∧ ∀ i, 1 ≤ i → i ≤ w.s.N → A 178 (ax + i) = w.s.cd i ∧ F (ax + i) = (sg : Rat) * OuQ w.s w.eo i ∧ F (26 + (ax + i)) = LvQ w.s w.el i
def kpW (ax : Nat) (o : Nat → Int) (F : Nat → Rat) (A : Nat → Nat → Int) (o' : Nat → Int) (F' : Nat → Rat) (A' : Nat → Nat → Int) : Prop := (∀ j, j ≠ 27 → (j < 29 ∨ 36 < j) → o' j = o j) ∧ (∀ j, j ≠ 178 → j ≠ 179 → j ≠ 180 → A' j = A j) ∧ (∀ k, k ≤ ax → A' 178 k = A 178 k) ∧ ∀ f, (f ≤ ax ∨ (26 ≤ f ∧ f ≤ 26 + ax) ∨ (52 ≤ f ∧ f ≠ 94 ∧ f ≠ 95)) → F' f = F f
theorem kpW.rf : kpW ax o F A o F A := ⟨fun _ _ _ => rfl, fun _ _ _ _ => rfl, fun _ _ => rfl, fun _ _ => rfl⟩
theorem kpW.tr (a : kpW ax o F A o' F' A') (b : kpW ax o' F' A' o'' F'' A'') : kpW ax o F A o'' F'' A'' := ⟨fun j x y => (b.1 j x y).trans (a.1 j x y), fun j x y z => (b.2.1 j x y z).trans (a.2.1 j x y z), fun k x => (b.2.2.1 k x).trans (a.2.2.1 k x), fun f x => (b.2.2.2 f x).trans (a.2.2.2 f x)⟩
def wkQ (h0 : am_H) (o : Nat → Int) (F : Nat → Rat) (A : Nat → Nat → Int) (ax : Nat) (sg : Int) (W : WS) : Option Value → am_H → Prop := fun r h' => r = none ∧ ∃ o' F' A', FW h0 h' o' F' A' ∧ RKW ax sg W o' F' A' ∧ kpW ax o F A o' F' A' ∧ A' 179 = updI (A 179) (sg + 1).toNat W.s.e
theorem wkQ.of {W : WS} {r : Option Value} (q : wkQ h0 o' F' A' ax sg W r h) (k : kpW ax o F A o' F' A') (e : A' 179 = A 179) : wkQ h0 o F A ax sg W r h := by
  obtain ⟨q1, o2, F2, A2, q2, q3, q4, q5⟩ := q
  exact ⟨q1, o2, F2, A2, q2, q3, k.tr q4, by rw [q5, e]⟩
theorem RKW.more {w w' : WS} {c out' high' : Int} (R : RKW ax sg w o F A) (e0 : w.s.e = 0) (hN : w'.s.N = w.s.N + 1) (hc : w'.s.cd = updI w.s.cd (w.s.N + 1) c) (ho : w'.s.ou = updI w.s.ou (w.s.N + 1) out') (hh : w'.s.hi = updI w.s.hi (w.s.N + 1) high') (hch : w'.ch = w.ch) (htk : w'.tk = w.tk) (e25 : o' 25 = o 25) (e29 : o' 29 = o 29) (e27 : o' 27 = o 27) (e30 : o' 30 = out') (e31 : o' 31 = high') (e32 : o' 32 = ((w.s.N + 1 : Nat) : Int)) (e33 : o' 33 = w'.s.e) (a180 : A' 180 = A 180) (a178 : A' 178 = updI (A 178) (ax + 1 + w.s.N) c) (f1 : F' (ax + 1 + w.s.N) = (sg : Rat) * OuQ w'.s w'.eo (w.s.N + 1)) (f2 : F' (26 + (ax + 1 + w.s.N)) = LvQ w'.s w'.el (w.s.N + 1)) (fn : ∀ i, i ≤ w.s.N → F' (ax + i) = F (ax + i) ∧ F' (26 + (ax + i)) = F (26 + (ax + i))) : RKW ax sg w' o' F' A' := by
  obtain ⟨⟨⟨r25, r29⟩, -, -⟩, ⟨r27, r180⟩, rc⟩ := R
  refine ⟨⟨⟨e25.trans r25, e29.trans r29⟩, ⟨?_, ?_⟩, ?_, e33⟩, ⟨?_, ?_⟩, fun i h1 h2 => ?_⟩
  · rw [e30, ho, hN, updI_s]
  · rw [e31, hh, hN, updI_s]
  · rw [e32, hN]
  · rw [e27, r27, hch]
  · rw [hch, htk, a180]; exact r180
  · rw [hN] at h2
    by_cases q : i = w.s.N + 1
    · subst q
      have e : ax + (w.s.N + 1) = ax + 1 + w.s.N := by omega
      rw [e, a178, updI_s, hc, updI_s, f1, f2]
      exact ⟨rfl, rfl, rfl⟩
    · have x := rc i h1 (by omega)
      have y := fn i (by omega)
      rw [a178, updI_n (by omega), hc, updI_n q, y.1, y.2, x.1, x.2.1, x.2.2]
      unfold OuQ LvQ
      rw [if_neg (by omega), if_neg (by omega), if_neg (by omega), if_neg (by omega), ho, hh, updI_n q, updI_n q]
      exact ⟨rfl, rfl, rfl⟩
theorem RKW.ask {w : WS} {v : Int} (R : RKW ax sg w o F A) (e27 : o' 27 = o 27 + 1) (on : ∀ j, 24 ≤ j → j ≠ 27 → j < 34 → o' j = o j) (a1 : A' 180 = updI (A 180) w.ch v) (an : A' 178 = A 178) : RKW ax sg (WS.mk w.s w.eo w.el (w.ch + 1) (updI w.tk w.ch v)) o' F A' := by
  obtain ⟨⟨⟨r25, r29⟩, ⟨r30, r31⟩, r32, r33⟩, ⟨r27, r180⟩, rc⟩ := R
  refine ⟨⟨⟨?_, ?_⟩, ⟨?_, ?_⟩, ?_, ?_⟩, ⟨?_, fun k hk => ?_⟩, fun i h1 h2 => ?_⟩
  · rw [on 25 (by decide) (by decide) (by decide), r25]
  · rw [on 29 (by decide) (by decide) (by decide), r29]
  · rw [on 30 (by decide) (by decide) (by decide), r30]
  · rw [on 31 (by decide) (by decide) (by decide), r31]
  · rw [on 32 (by decide) (by decide) (by decide), r32]
  · rw [on 33 (by decide) (by decide) (by decide), r33]
  · rw [e27, r27]; rfl
  · have hk : k < w.ch + 1 := hk
    rw [a1]
    show updI (A 180) w.ch v k = updI w.tk w.ch v k
    by_cases q : k = w.ch
    · subst q; rw [updI_s, updI_s]
    · rw [updI_n q, updI_n q]; exact r180 k (by omega)
  · rw [an]; exact rc i h1 h2
theorem RKW.keep {w : WS} (R : RKW ax sg w o F A) (on : ∀ j, 24 ≤ j → j < 34 → o' j = o j) : RKW ax sg w o' F A := by
  obtain ⟨⟨⟨r25, r29⟩, ⟨r30, r31⟩, r32, r33⟩, ⟨r27, r180⟩, rc⟩ := R
  exact ⟨⟨⟨(on 25 (by decide) (by decide)).trans r25, (on 29 (by decide) (by decide)).trans r29⟩, ⟨(on 30 (by decide) (by decide)).trans r30, (on 31 (by decide) (by decide)).trans r31⟩, (on 32 (by decide) (by decide)).trans r32, (on 33 (by decide) (by decide)).trans r33⟩, ⟨(on 27 (by decide) (by decide)).trans r27, r180⟩, rc⟩
theorem rr_walkE {d t : Nat} {w : WS} {k x y : Value} (W : FW h0 h o F A) (hs : sg = 1 ∨ sg = -1) (R : RKW ax sg w o F A) (he : w.s.e = 0 ∨ w.s.e = 1) : am_w X d 170 (393, [.ref 164, .int (iI t), .int (iI sg), k, x, y], [], h) (wkQ h0 o F A ax sg w) := by
  have cO := W.cO
  have e33 := R.1.2.2.2
  have cE := (W.setE (A 179)).1
  have et : (sg + 1).toNat = (sg + 1).toNat := rfl
  rcases he with e | e
  · rw [e] at e33
    refine wr_aload_n rfl rfl rfl ?_
    refine wr_get (ci := 12) (f := 26) rfl rfl rfl (by assumption) rfl ?_
    refine wr_iload_n rfl rfl rfl ?_
    refine wr_iconst rfl rfl ?_
    refine wr_iadd rfl rfl ?_
    refine wr_aload_n rfl rfl rfl ?_
    refine wr_get (ci := 12) (f := 33) rfl rfl rfl (by assumption) rfl ?_
    rw [e33]
    refine wr_zast rfl rfl (by assumption) (by omega) (by omega) (by decide) (fun h1 e1 => ?_)
    have w2 := e1 ▸ (W.setE (updI (A 179) (sg + 1).toNat 0)).2
    clear e1
    obtain ⟨A2, w2, sA, nA⟩ := fa_ex w2
    refine wr_vret rfl rfl ?_
    refine ⟨rfl, o, F, A2, w2, ⟨R.1, ⟨R.2.1.1, by rw [nA 180 (by decide)]; exact R.2.1.2⟩, by rw [nA 178 (by decide)]; exact R.2.2⟩, ⟨fun _ _ _ => rfl, fun j _ a _ => nA j a, fun k _ => by rw [nA 178 (by decide)], fun _ _ => rfl⟩, by rw [sA, e]⟩
  · rw [e] at e33
    refine wr_aload_n rfl rfl rfl ?_
    refine wr_get (ci := 12) (f := 26) rfl rfl rfl (by assumption) rfl ?_
    refine wr_iload_n rfl rfl rfl ?_
    refine wr_iconst rfl rfl ?_
    refine wr_iadd rfl rfl ?_
    refine wr_aload_n rfl rfl rfl ?_
    refine wr_get (ci := 12) (f := 33) rfl rfl rfl (by assumption) rfl ?_
    rw [e33]
    refine wr_zast rfl rfl (by assumption) (by omega) (by omega) (by decide) (fun h1 e1 => ?_)
    have w2 := e1 ▸ (W.setE (updI (A 179) (sg + 1).toNat 1)).2
    clear e1
    obtain ⟨A2, w2, sA, nA⟩ := fa_ex w2
    refine wr_vret rfl rfl ?_
    refine ⟨rfl, o, F, A2, w2, ⟨R.1, ⟨R.2.1.1, by rw [nA 180 (by decide)]; exact R.2.1.2⟩, by rw [nA 178 (by decide)]; exact R.2.2⟩, ⟨fun _ _ _ => rfl, fun j _ a _ => nA j a, fun k _ => by rw [nA 178 (by decide)], fun _ _ => rfl⟩, by rw [sA, e]⟩
end RSC
