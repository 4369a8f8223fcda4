/-! BOTH AREAS ARE ONE: the corners of a state -/
section RTF
variable {z : PS}
abbrev zU (z : PS) (k : Nat) : Rat := cornO z (k : Int)
abbrev zY (z : PS) (k : Nat) : Rat := cornL z (k : Int)
theorem corn_R (k t : Nat) (e : k = z.L.N + t) : zU z k = OuQ z.R z.eR t ∧ zY z k = LvQ z.R z.fR t := by
  unfold zU zY cornO cornL
  rw [if_neg (by omega), if_neg (by omega), show ((k : Int) - (z.L.N : Int)).toNat = t by omega]
  exact ⟨rfl, rfl⟩
theorem corn_L (k : Nat) (h : k < z.L.N) : zU z k = -(OuQ z.L z.eL (z.L.N - k)) ∧ zY z k = LvQ z.L z.fL (z.L.N - k) := by
  unfold zU zY cornO cornL
  rw [if_pos (by omega), if_pos (by omega), show ((z.L.N : Int) - (k : Int)).toNat = z.L.N - k by omega]
  exact ⟨rfl, rfl⟩
theorem out_in {s : Sq} {eo el : Rat} {i : Nat} (h : ¬ (s.e = 1 ∧ i = s.N)) : OuQ s eo i = (s.ou i : Rat) ∧ LvQ s el i = (s.hi i : Rat) / 1000 := ⟨if_neg h, if_neg h⟩
/-- the way from corner k on, right of the axis -/
theorem sec_R {k t : Nat} (e : k = z.L.N + t) (ht : t < z.R.N) : zU z k = (z.R.ou t : Rat) ∧ zY z k = (z.R.hi t : Rat) / 1000 ∧ zU z (k + 1) = OuQ z.R z.eR (t + 1) ∧ zY z (k + 1) = LvQ z.R z.fR (t + 1) := by
  have a := corn_R k t e
  have b := corn_R (z := z) (k + 1) (t + 1) (by omega)
  have c := out_in (s := z.R) (eo := z.eR) (el := z.fR) (i := t) (by omega)
  exact ⟨a.1.trans c.1, a.2.trans c.2, b.1, b.2⟩
theorem sec_L (H1 : sdH z.vn z.vo z.vl (-1) z.L z.eL z.fL) (H2 : sdH z.vn z.vo z.vl 1 z.R z.eR z.fR) (h0 : z.L.hi 0 = z.R.hi 0) {k : Nat} (h : k < z.L.N) : zU z k = -(OuQ z.L z.eL (z.L.N - k)) ∧ zY z k = LvQ z.L z.fL (z.L.N - k) ∧ zU z (k + 1) = -(z.L.ou (z.L.N - k - 1) : Rat) ∧ zY z (k + 1) = (z.L.hi (z.L.N - k - 1) : Rat) / 1000 := by
  have a := corn_L k h
  refine ⟨a.1, a.2, ?_⟩
  by_cases c : k + 1 < z.L.N
  · have b := corn_L (k + 1) c
    have d := out_in (s := z.L) (eo := z.eL) (el := z.fL) (i := z.L.N - (k + 1)) (by omega)
    rw [b.1, b.2, d.1, d.2, show z.L.N - (k + 1) = z.L.N - k - 1 by omega]
    exact ⟨rfl, rfl⟩
  · have b := corn_R (z := z) (k + 1) 0 (by omega)
    have d := out_in (s := z.R) (eo := z.eR) (el := z.fR) (i := 0) (fun q => by have := (H2.fin q.1).1; omega)
    rw [b.1, b.2, d.1, d.2, H2.o0, ← h0, show z.L.N - k - 1 = 0 by omega, H1.o0]
    refine ⟨?_, rfl⟩
    have : (((0 : Int)) : Rat) = 0 := rfl
    rw [this]
    grind
theorem sd_mono {n : Nat} {off lev : Nat → Int} {sg : Int} {s : Sq} {eo el : Rat} (H : sdH n off lev sg s eo el) {i : Nat} (h0 : 0 < i) (hi : i ≤ s.N) : (s.ou (i - 1) : Rat) ≤ OuQ s eo i := by
  unfold OuQ
  split
  · rename_i c
    have f := H.fin c.1
    rw [c.2, ← f.2.1]
    exact f.2.2.2.1.1
  · have := H.mono (i - 1) (by omega)
    rw [show i - 1 + 1 = i by omega] at this
    exact Rat.intCast_le_intCast.mpr this
theorem gp_R (H2 : sdH z.vn z.vo z.vl 1 z.R z.eR z.fR) {k t : Nat} (e : k = z.L.N + t) (ht : t < z.R.N) (lt : zU z k < zU z (k + 1)) (x : Rat) : gpQ z.vn z.vo z.vl (zU z) (zY z) k x = gapQ z.vn z.vo z.vl 1 z.R (t + 1) x := by
  obtain ⟨a, b, c, d⟩ := sec_R e ht
  have r := H2.rgt (i := t + 1) (by omega) (by omega) (by rw [show t + 1 - 1 = t from rfl, ← a, ← c]; exact lt) x
  rw [show t + 1 - 1 = t from rfl] at r
  unfold gpQ gapQ
  rw [a, b, c, d, r, gQ_lo]
theorem gp_L (H1 : sdH z.vn z.vo z.vl (-1) z.L z.eL z.fL) (H2 : sdH z.vn z.vo z.vl 1 z.R z.eR z.fR) (h0 : z.L.hi 0 = z.R.hi 0) {k : Nat} (h : k < z.L.N) (lt : zU z k < zU z (k + 1)) (x : Rat) : gpQ z.vn z.vo z.vl (zU z) (zY z) k x = gapQ z.vn z.vo z.vl (-1) z.L (z.L.N - k) (-x) := by
  obtain ⟨a, b, c, d⟩ := sec_L H1 H2 h0 h
  have r := H1.lft (i := z.L.N - k) (by omega) (by omega) (by rw [a, c] at lt; grind) x
  unfold gpQ gapQ
  rw [a, b, c, d, r, gQ_lom]
theorem sc_H (ok : okG z.vn z.vo z.vl) (H1 : sdH z.vn z.vo z.vl (-1) z.L z.eL z.fL) (H2 : sdH z.vn z.vo z.vl 1 z.R z.eR z.fR) (h0 : z.L.hi 0 = z.R.hi 0) : ScH z.vn z.vo z.vl (z.L.N + 1 + z.R.N) (zU z) (zY z) := by
  refine ⟨fun k hk => ?_, fun k hk => ?_, fun k hk lt x y bx b1 x1 xy y1 np => ?_⟩
  · by_cases c : k < z.L.N
    · obtain ⟨a, b⟩ := corn_L k c
      rw [a, b]
      exact ⟨(H1.qO _ (by omega)).neg, H1.qL ok (Or.inr rfl) (by omega)⟩
    · obtain ⟨a, b⟩ := corn_R (z := z) k (k - z.L.N) (by omega)
      rw [a, b]
      exact ⟨H2.qO _ (by omega), H2.qL ok (Or.inl rfl) (by omega)⟩
  · by_cases c : k < z.L.N
    · obtain ⟨a, -, b, -⟩ := sec_L H1 H2 h0 c
      have := sd_mono H1 (i := z.L.N - k) (by omega) (by omega)
      rw [a, b]
      grind
    · obtain ⟨a, -, b, -⟩ := sec_R (z := z) (k := k) (t := k - z.L.N) (by omega) (by omega)
      have := sd_mono H2 (i := k - z.L.N + 1) (by omega) (by omega)
      rw [a, b]
      exact this
  · unfold pkC pkF
    by_cases c : k < z.L.N
    · obtain ⟨a, -, b, -⟩ := sec_L H1 H2 h0 c
      rw [gp_L H1 H2 h0 c lt, gp_L H1 H2 h0 c lt]
      rw [a] at bx x1
      rw [b] at b1 y1
      obtain ⟨d, ru, K, P⟩ := sd_pieceL H1 ok (i := z.L.N - k) (by omega) (by omega) bx b1 x1 xy y1 np
      have q := P.q2
      have sh := P.share
      rw [pcC_sym, pcF_sym] at sh
      exact ⟨⟨q.2, q.1⟩, sh⟩
    · obtain ⟨a, -, b, -⟩ := sec_R (z := z) (k := k) (t := k - z.L.N) (by omega) (by omega)
      rw [gp_R H2 (t := k - z.L.N) (by omega) (by omega) lt, gp_R H2 (t := k - z.L.N) (by omega) (by omega) lt]
      rw [a] at bx x1
      rw [b] at b1 y1
      obtain ⟨d, ru, K, P⟩ := sd_pieceR H2 ok (i := k - z.L.N + 1) (by omega) (by omega) bx b1 x1 xy y1 np
      exact ⟨P.q2, P.share⟩
/-- a way's sum, right -/
theorem sc_R (H2 : sdH z.vn z.vo z.vl 1 z.R z.eR z.fR) (pc : Rat → Rat → Rat → Rat) {k t : Nat} (e : k = z.L.N + t) (ht : t < z.R.N) : scS z.vn z.vo (zU z) (fun k x y => pc (gpQ z.vn z.vo z.vl (zU z) (zY z) k x) (gpQ z.vn z.vo z.vl (zU z) (zY z) k y) (y - x)) k = arI z.vn z.vo 1 z.R z.eR (fun i x y => pc (gapQ z.vn z.vo z.vl 1 z.R i x) (gapQ z.vn z.vo z.vl 1 z.R i y) (y - x)) (1 + t) (z.R.ou (1 + t - 1)) := by
  obtain ⟨a, -, c, -⟩ := sec_R e ht
  unfold scS arI
  rw [show 1 + t = t + 1 by omega, show t + 1 - 1 = t from rfl]
  by_cases lt : zU z k < zU z (k + 1)
  · have lt2 : (z.R.ou t : Rat) < OuQ z.R z.eR (t + 1) := by rw [← a, ← c]; exact lt
    rw [if_pos lt, if_pos lt2, uO_1, ← c, ← a]
    congr 1
    funext x y
    dsimp only
    rw [gp_R H2 e ht lt, gp_R H2 e ht lt]
  · have lt2 : ¬ (z.R.ou t : Rat) < OuQ z.R z.eR (t + 1) := by rw [← a, ← c]; exact lt
    rw [if_neg lt, if_neg lt2]
theorem sc_L (ok : okG z.vn z.vo z.vl) (H1 : sdH z.vn z.vo z.vl (-1) z.L z.eL z.fL) (H2 : sdH z.vn z.vo z.vl 1 z.R z.eR z.fR) (h0 : z.L.hi 0 = z.R.hi 0) (pc : Rat → Rat → Rat → Rat) (sym : ∀ a b w, pc a b w = pc b a w) {k : Nat} (h : k < z.L.N) : scS z.vn z.vo (zU z) (fun k x y => pc (gpQ z.vn z.vo z.vl (zU z) (zY z) k x) (gpQ z.vn z.vo z.vl (zU z) (zY z) k y) (y - x)) k = arI z.vn z.vo (-1) z.L z.eL (fun i x y => pc (gapQ z.vn z.vo z.vl (-1) z.L i x) (gapQ z.vn z.vo z.vl (-1) z.L i y) (y - x)) (z.L.N - k) (z.L.ou (z.L.N - k - 1)) := by
  obtain ⟨a, -, c, -⟩ := sec_L H1 H2 h0 h
  unfold scS arI
  by_cases lt : zU z k < zU z (k + 1)
  · have lt2 : (z.L.ou (z.L.N - k - 1) : Rat) < OuQ z.L z.eL (z.L.N - k) := by rw [a, c] at lt; grind
    rw [if_pos lt, if_pos lt2, coF_ciF (n := z.vn) (fun i j a b => uO_mono ok (Or.inr rfl) a b) _ z.vn _ (Nat.le_refl _)]
    rw [c, coF_rev (n := z.vn) (F2 := fun x y => pc (gapQ z.vn z.vo z.vl (-1) z.L (z.L.N - k) x) (gapQ z.vn z.vo z.vl (-1) z.L (z.L.N - k) y) (y - x)) (fun x y => ?_) z.vn 0 _ (by omega), a]
    · congr 1
      grind
    · dsimp only
      rw [gp_L H1 H2 h0 h lt, gp_L H1 H2 h0 h lt, sym]
      congr 1
      grind
  · have lt2 : ¬ (z.L.ou (z.L.N - k - 1) : Rat) < OuQ z.L z.eL (z.L.N - k) := by rw [a, c] at lt; grind
    rw [if_neg lt, if_neg lt2]
theorem ar_one (ok : okG z.vn z.vo z.vl) (H1 : sdH z.vn z.vo z.vl (-1) z.L z.eL z.fL) (H2 : sdH z.vn z.vo z.vl 1 z.R z.eR z.fR) (h0 : z.L.hi 0 = z.R.hi 0) (pc : Rat → Rat → Rat → Rat) (sym : ∀ a b w, pc a b w = pc b a w) : arS (scS z.vn z.vo (zU z) (fun k x y => pc (gpQ z.vn z.vo z.vl (zU z) (zY z) k x) (gpQ z.vn z.vo z.vl (zU z) (zY z) k y) (y - x))) (z.L.N + z.R.N) = arT z.vn z.vo (-1) z.L z.eL (fun i x y => pc (gapQ z.vn z.vo z.vl (-1) z.L i x) (gapQ z.vn z.vo z.vl (-1) z.L i y) (y - x)) z.L.N 1 + arT z.vn z.vo 1 z.R z.eR (fun i x y => pc (gapQ z.vn z.vo z.vl 1 z.R i x) (gapQ z.vn z.vo z.vl 1 z.R i y) (y - x)) z.R.N 1 := by
  rw [arS_rgt (n := z.vn) (off := z.vo) (sg := 1) (s := z.R) (eo := z.eR) (G := fun i x y => pc (gapQ z.vn z.vo z.vl 1 z.R i x) (gapQ z.vn z.vo z.vl 1 z.R i y) (y - x)) z.R.N (fun t ht => sc_R H2 pc rfl ht), arS_lft (n := z.vn) (off := z.vo) (sg := -1) (s := z.L) (eo := z.eL) (G := fun i x y => pc (gapQ z.vn z.vo z.vl (-1) z.L i x) (gapQ z.vn z.vo z.vl (-1) z.L i y) (y - x)) z.L.N (Nat.le_refl _) (fun t ht => sc_L ok H1 H2 h0 pc sym ht), show z.L.N - z.L.N + 1 = 1 by omega]
theorem area_one (ok : okG z.vn z.vo z.vl) (H1 : sdH z.vn z.vo z.vl (-1) z.L z.eL z.fL) (H2 : sdH z.vn z.vo z.vl 1 z.R z.eR z.fR) (h0 : z.L.hi 0 = z.R.hi 0) : arS (scS z.vn z.vo (zU z) (pkC z.vn z.vo z.vl (zU z) (zY z))) (z.L.N + 1 + z.R.N - 1) = areaC z ∧ arS (scS z.vn z.vo (zU z) (pkF z.vn z.vo z.vl (zU z) (zY z))) (z.L.N + 1 + z.R.N - 1) = areaF z := by
  rw [show z.L.N + 1 + z.R.N - 1 = z.L.N + z.R.N by omega]
  exact ⟨ar_one ok H1 H2 h0 pcC pcC_sym, ar_one ok H1 H2 h0 pcF pcF_sym⟩
end RTF
