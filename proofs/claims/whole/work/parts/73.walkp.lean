/-! A SIDE'S WALK, PURELY -/
abbrev WS : Type := (Sq) × (Rat) × (Rat) × (Nat) × (Nat → Int)
abbrev WS.mk (s : Sq) (eo : Rat) (el : Rat) (ch : Nat) (tk : Nat → Int) : WS := (s, eo, el, ch, tk)
abbrev WS.s (s : WS) : Sq := s.1
abbrev WS.eo (s : WS) : Rat := s.2.1
abbrev WS.el (s : WS) : Rat := s.2.2.1
abbrev WS.ch (s : WS) : Nat := s.2.2.2.1
abbrev WS.tk (s : WS) : Nat → Int := s.2.2.2.2
theorem WS_s {s : Sq} {eo : Rat} {el : Rat} {ch : Nat} {tk : Nat → Int} : (WS.mk s eo el ch tk).s = s := rfl
theorem WS_eo {s : Sq} {eo : Rat} {el : Rat} {ch : Nat} {tk : Nat → Int} : (WS.mk s eo el ch tk).eo = eo := rfl
theorem WS_el {s : Sq} {eo : Rat} {el : Rat} {ch : Nat} {tk : Nat → Int} : (WS.mk s eo el ch tk).el = el := rfl
theorem WS_ch {s : Sq} {eo : Rat} {el : Rat} {ch : Nat} {tk : Nat → Int} : (WS.mk s eo el ch tk).ch = ch := rfl
theorem WS_tk {s : Sq} {eo : Rat} {el : Rat} {ch : Nat} {tk : Nat → Int} : (WS.mk s eo el ch tk).tk = tk := rfl
section WKP
variable (kd fi se ta : Nat → Int) (n : Nat) (off lev : Nat → Int) (sg bank : Int)
def wGap (q : Sq) : Int := gapS n off lev sg (q.ou q.N) (q.hi q.N)
def wLow (q : Sq) : Int := 1000 * gL n off (sg * q.ou q.N)
def wStride (q : Sq) (k wd dn : Int) : Sq := q.add k wd (if k = 3 then 1000 * dn else wd * dn) (-dn) (if k = 3 then wd else 1000)
def wEnd (q : Sq) (c rs rn : Int) : Sq := (Sq.mk (q.N + 1) (1) (updI q.cd (q.N + 1) c) (updI q.ou (q.N + 1) (q.ou q.N + 0)) (updI q.hi (q.N + 1) (q.hi q.N - 0)) (updI q.ri (q.N + 1) rs) (updI q.ru (q.N + 1) rn))
/-- one order: the state, and the next order -/
def wStep (w : WS) (k : Nat) : WS × Nat :=
  if kd k = 10 then (w, (ta k).toNat)
  else if 6 ≤ kd k then
    (if holdP (kd k) (fi k) (wGap n off lev sg w.s) (wLow n off sg w.s) then ((WS.mk w.s w.eo w.el (w.ch + 1) (updI w.tk w.ch 1)), k + 1)
    else ((WS.mk w.s w.eo w.el (w.ch + 1) (updI w.tk w.ch (if se k = 1 then 2 else 0))), (ta k).toNat))
  else if kd k = 4 then ((WS.mk (wEnd w.s 4 ((wGap n off lev sg w.s).sign * fi k) (se k)) (eoS n off lev sg (w.s.ou w.s.N) (w.s.hi w.s.N) (fi k) (se k)) (elS n off lev sg (w.s.ou w.s.N) (w.s.hi w.s.N) (fi k) (se k)) w.ch w.tk), k + 1)
  else if kd k = 5 then ((WS.mk (wEnd w.s 5 0 1) (Rat.divInt (w.s.ou w.s.N) 1) (Rat.divInt (gU n off lev (sg * w.s.ou w.s.N)) (gL n off (sg * w.s.ou w.s.N))) w.ch w.tk), k + 1)
  else ((WS.mk (wStride w.s (kd k) (fi k) (if kd k = 2 then -sg * bank else se k)) w.eo w.el w.ch w.tk), k + 1)
def wLoop (en : Int) : Nat → WS → Nat → WS
  | 0, w, _ => w
  | m + 1, w, k => if (k : Int) < en ∧ w.s.e = 0 then wLoop en m (wStep kd fi se ta n off lev sg bank w k).1 (wStep kd fi se ta n off lev sg bank w k).2 else w
end WKP
/-- what holds on the way: st the template's first order, c0 the choices before -/
def InvW (kd : Nat → Int) (st c0 : Nat) (w : WS) (k : Nat) : Prop :=
  (okB w.s) ∧
  (st ≤ k) ∧
  (c0 ≤ w.ch) ∧
  (w.s.N + (w.ch - c0) ≤ cntR kd st (k - st))
theorem InvW.ok {kd : Nat → Int} {st c0 : Nat} {w : WS} {k : Nat} (zz : InvW kd st c0 w k) : okB w.s := zz.1
theorem InvW.stk {kd : Nat → Int} {st c0 : Nat} {w : WS} {k : Nat} (zz : InvW kd st c0 w k) : st ≤ k := zz.2.1
theorem InvW.c0l {kd : Nat → Int} {st c0 : Nat} {w : WS} {k : Nat} (zz : InvW kd st c0 w k) : c0 ≤ w.ch := zz.2.2.1
theorem InvW.cnt {kd : Nat → Int} {st c0 : Nat} {w : WS} {k : Nat} (zz : InvW kd st c0 w k) : w.s.N + (w.ch - c0) ≤ cntR kd st (k - st) := zz.2.2.2
theorem cntR_mono {kd : Nat → Int} {b m m' : Nat} (h : m ≤ m') : cntR kd b m ≤ cntR kd b m' := by
  induction m' with
  | zero => rw [show m = 0 by omega]; exact Nat.le_refl _
  | succ z ih =>
    by_cases e : m = z + 1
    · subst e; exact Nat.le_refl _
    · have := ih (by omega)
      rw [cntR]
      omega
theorem cntR_at {kd : Nat → Int} {b k : Nat} (hb : b ≤ k) (h : kd k ≠ 10) : cntR kd b (k + 1 - b) = cntR kd b (k - b) + 1 := by
  rw [show k + 1 - b = (k - b) + 1 by omega, cntR, show b + (k - b) = k by omega, if_neg h]
theorem okB.add {q : Sq} {k wd dn : Int} (o : okB q) (hN : q.N < 12) (hw : 0 ≤ wd ∧ wd ≤ 99999) (hd : -99999 ≤ dn ∧ dn ≤ 99999) : okB (wStride q k wd dn) := by
  obtain ⟨o1, o2, o3, o4⟩ := o
  have m := mulB (a := wd) (b := dn) (A := 99999) (B := 99999) (by omega) hd
  have d : -10000000000 ≤ (if k = 3 then 1000 * dn else wd * dn) ∧ (if k = 3 then 1000 * dn else wd * dn) ≤ 10000000000 := by split <;> omega
  unfold wStride Sq.add
  generalize (if k = 3 then 1000 * dn else wd * dn) = z at *
  refine ⟨by show q.N + 1 ≤ 12; omega, o2, fun i hi => ?_, fun i hi => ?_⟩
  · have hi : i ≤ q.N + 1 := hi
    show 0 ≤ updI q.ou (q.N + 1) (q.ou q.N + wd) i ∧ updI q.ou (q.N + 1) (q.ou q.N + wd) i ≤ 99999 * i
    by_cases e : i = q.N + 1
    · have := o3 q.N (Nat.le_refl _)
      rw [e, updI_s]
      omega
    · rw [updI_n e]; exact o3 i (by omega)
  · have hi : i ≤ q.N + 1 := hi
    show -100000000 - 10000000000 * i ≤ updI q.hi (q.N + 1) (q.hi q.N - z) i ∧ updI q.hi (q.N + 1) (q.hi q.N - z) i ≤ 100000000 + 10000000000 * i
    by_cases e : i = q.N + 1
    · have := o4 q.N (Nat.le_refl _)
      rw [e, updI_s]
      omega
    · rw [updI_n e]; exact o4 i (by omega)
theorem okB.fin {q : Sq} {c rs rn : Int} (o : okB q) (hN : q.N < 12) : okB (wEnd q c rs rn) := by
  obtain ⟨o1, o2, o3, o4⟩ := o
  unfold wEnd
  refine ⟨by show q.N + 1 ≤ 12; omega, Or.inr rfl, fun i hi => ?_, fun i hi => ?_⟩
  · have hi : i ≤ q.N + 1 := hi
    show 0 ≤ updI q.ou (q.N + 1) (q.ou q.N + 0) i ∧ updI q.ou (q.N + 1) (q.ou q.N + 0) i ≤ 99999 * i
    by_cases e : i = q.N + 1
    · have := o3 q.N (Nat.le_refl _)
      rw [e, updI_s]
      omega
    · rw [updI_n e]; exact o3 i (by omega)
  · have hi : i ≤ q.N + 1 := hi
    show -100000000 - 10000000000 * i ≤ updI q.hi (q.N + 1) (q.hi q.N - 0) i ∧ updI q.hi (q.N + 1) (q.hi q.N - 0) i ≤ 100000000 + 10000000000 * i
    by_cases e : i = q.N + 1
    · have := o4 q.N (Nat.le_refl _)
      rw [e, updI_s]
      omega
    · rw [updI_n e]; exact o4 i (by omega)
theorem InvW.next {kd fi se ta : Nat → Int} {n : Nat} {off lev : Nat → Int} {sg bank en : Int} {st c0 k : Nat} {w : WS} (I : InvW kd st c0 w k) (hk : (k : Int) < en) (hc : cntR kd st (en.toNat - st) ≤ 12) (row : rowOK kd fi se k) (tar : 6 ≤ kd k → (k : Int) < ta k ∧ ta k ≤ en) (hs : sg = 1 ∨ sg = -1) (hb : -150 ≤ bank ∧ bank ≤ 150) : InvW kd st c0 (wStep kd fi se ta n off lev sg bank w k).1 (wStep kd fi se ta n off lev sg bank w k).2 ∧ k < (wStep kd fi se ta n off lev sg bank w k).2 ∧ ((wStep kd fi se ta n off lev sg bank w k).2 : Int) ≤ en ∧ w.s.N + (w.ch - c0) ≤ 12 ∧ (kd k ≠ 10 → w.s.N + (w.ch - c0) < 12) := by
  obtain ⟨ok, stk, c0l, cnt⟩ := I
  obtain ⟨r1, r2, r3, r4, r5, r6, r7, r8⟩ := row
  have le : ∀ k' : Nat, k ≤ k' → (k' : Int) ≤ en → w.s.N + (w.ch - c0) ≤ cntR kd st (k' - st) := fun k' a b => Nat.le_trans cnt (cntR_mono (by omega))
  have l12 := le en.toNat (by omega) (by omega)
  have up : ∀ k' : Nat, k < k' → kd k ≠ 10 → w.s.N + (w.ch - c0) + 1 ≤ cntR kd st (k' - st) := fun k' a b => by
    have := cntR_at stk b
    have := cntR_mono (kd := kd) (b := st) (show k + 1 - st ≤ k' - st by omega)
    omega
  have u12 : kd k ≠ 10 → w.s.N + (w.ch - c0) < 12 := fun q => by
    have := up en.toNat (by omega) q
    omega
  have T := tar
  unfold wStep
  by_cases c10 : kd k = 10
  · rw [if_pos c10]
    have t := T (by omega)
    exact ⟨⟨ok, by show st ≤ (ta k).toNat; omega, c0l, le _ (by omega) (by omega)⟩, by show k < (ta k).toNat; omega, by show (((ta k).toNat : Nat) : Int) ≤ en; omega, by omega, fun q => absurd c10 q⟩
  rw [if_neg c10]
  have N12 := u12 c10
  by_cases c6 : 6 ≤ kd k
  · rw [if_pos c6]
    have t := T c6
    split
    · refine ⟨⟨ok, by show st ≤ k + 1; omega, by show c0 ≤ w.ch + 1; omega, ?_⟩, by show k < k + 1; omega, by show ((k + 1 : Nat) : Int) ≤ en; omega, by omega, fun _ => N12⟩
      show w.s.N + (w.ch + 1 - c0) ≤ cntR kd st (k + 1 - st)
      have := up (k + 1) (by omega) c10
      omega
    · refine ⟨⟨ok, by show st ≤ (ta k).toNat; omega, by show c0 ≤ w.ch + 1; omega, ?_⟩, by show k < (ta k).toNat; omega, by show (((ta k).toNat : Nat) : Int) ≤ en; omega, by omega, fun _ => N12⟩
      show w.s.N + (w.ch + 1 - c0) ≤ cntR kd st ((ta k).toNat - st)
      have := up (ta k).toNat (by omega) c10
      omega
  rw [if_neg c6]
  have cn := up (k + 1) (by omega) c10
  split
  · refine ⟨⟨ok.fin (by omega), by show st ≤ k + 1; omega, c0l, ?_⟩, by show k < k + 1; omega, by show ((k + 1 : Nat) : Int) ≤ en; omega, by omega, fun _ => N12⟩
    show w.s.N + 1 + (w.ch - c0) ≤ cntR kd st (k + 1 - st)
    omega
  split
  · refine ⟨⟨ok.fin (by omega), by show st ≤ k + 1; omega, c0l, ?_⟩, by show k < k + 1; omega, by show ((k + 1 : Nat) : Int) ≤ en; omega, by omega, fun _ => N12⟩
    show w.s.N + 1 + (w.ch - c0) ≤ cntR kd st (k + 1 - st)
    omega
  · refine ⟨⟨ok.add (by omega) (by omega) ?_, by show st ≤ k + 1; omega, c0l, ?_⟩, by show k < k + 1; omega, by show ((k + 1 : Nat) : Int) ≤ en; omega, by omega, fun _ => N12⟩
    · split
      · rcases hs with rfl | rfl <;> omega
      · omega
    · show w.s.N + 1 + (w.ch - c0) ≤ cntR kd st (k + 1 - st)
      omega
