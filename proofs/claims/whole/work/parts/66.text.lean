/-! THE TEXT, PURELY: what its signs tell, or where the fault is -/
abbrev PR (α : Type) : Type := Except Nat (α × Nat)
def skF (T : Nat → Int) : Nat → Nat → Nat
  | 0, p => p
  | m + 1, p => if T p = 32 then skF T m (p + 1) else p
/-- behind the blanks at p, of n signs -/
def skp (T : Nat → Int) (n p : Nat) : Nat := skF T (n - p) p
/-- the sign at p; e at the end -/
def sgA (T : Nat → Int) (n : Nat) (e : Int) (p : Nat) : Int := if p < n then T p else e
def dgF (T : Nat → Int) : Nat → Nat → Nat
  | 0, p => p
  | m + 1, p => if 48 ≤ T p ∧ T p ≤ 57 then dgF T m (p + 1) else p
def dgE (T : Nat → Int) (n p : Nat) : Nat := dgF T (n - p) p
/-- m more digits from p on -/
def nvF (T : Nat → Int) : Nat → Nat → Int → Int
  | 0, _, v => v
  | m + 1, p, v => nvF T m (p + 1) (v * 10 + T p - 48)
def badN (T : Nat → Int) (least : Int) (s e : Nat) : Bool := decide ((e < s + 1 ∨ s + 5 < e ∨ (s + 1 < e ∧ T s = 48)) ∨ nvF T (e - s) s 0 < least)
def pnum (T : Nat → Int) (n : Nat) (least : Int) (p : Nat) : PR Int := if badN T least (skp T n p) (dgE T n (skp T n p)) = true then .error (skp T n p) else .ok ((nvF T (dgE T n (skp T n p) - skp T n p) (skp T n p) 0), (dgE T n (skp T n p)))
def psnum (T : Nat → Int) (n p : Nat) : PR Int := if sgA T n 0 (skp T n p) = 45 then (match pnum T n 0 (skp T n p + 1) with
    | .error q => .error q
    | .ok (v, q) => .ok ((-v), q)) else pnum T n 0 (skp T n p)
def pexp (T : Nat → Int) (n : Nat) (c : Int) (p : Nat) : PR Unit := if sgA T n 0 (skp T n p) = c then .ok ((), (skp T n p + 1)) else .error (skp T n p)
def popn (T : Nat → Int) (n op p : Nat) : PR Unit := if 5 ≤ op ∨ sgA T n 0 (skp T n p) ≠ 40 then .error (skp T n p) else .ok ((), (skp T n p + 1))
theorem skF_spec (T : Nat → Int) : ∀ m p, p ≤ skF T m p ∧ skF T m p ≤ p + m ∧ (∀ j, p ≤ j → j < skF T m p → T j = 32) ∧ (skF T m p < p + m → T (skF T m p) ≠ 32)
  | 0, p => ⟨Nat.le_refl _, Nat.le_refl _, fun j a b => by simp only [skF] at b; omega, fun q => by simp only [skF] at q; omega⟩
  | m + 1, p => by
    unfold skF
    by_cases c : T p = 32
    · rw [if_pos c]
      obtain ⟨a1, a2, a3, a4⟩ := skF_spec T m (p + 1)
      refine ⟨by omega, by omega, fun j h1 h2 => ?_, fun q => a4 (by omega)⟩
      by_cases e : j = p
      · subst e; exact c
      · exact a3 j (by omega) h2
    · rw [if_neg c]
      exact ⟨Nat.le_refl _, by omega, fun j h1 h2 => by omega, fun _ => c⟩
theorem skp_spec (T : Nat → Int) (n p : Nat) : p ≤ skp T n p ∧ (p ≤ n → skp T n p ≤ n) ∧ (n ≤ p → skp T n p = p) ∧ (skp T n p < n → T (skp T n p) ≠ 32) := by
  have := skF_spec T (n - p) p
  unfold skp
  refine ⟨by omega, by omega, fun q => ?_, fun q => this.2.2.2 (by omega)⟩
  rw [show n - p = 0 by omega]; rfl
theorem skp_idem (T : Nat → Int) (n p : Nat) : skp T n (skp T n p) = skp T n p := by
  have h := skp_spec T n p
  by_cases c : skp T n p < n
  · have h2 := h.2.2.2 c
    generalize skp T n p = q at *
    unfold skp
    rw [show n - q = (n - q - 1) + 1 by omega, skF, if_neg h2]
  · have h2 := skp_spec T n (skp T n p)
    exact h2.2.2.1 (by omega)
theorem skp_end {T : Nat → Int} {n p : Nat} (h : n ≤ p) : skp T n p = p := (skp_spec T n p).2.2.1 h
theorem skp_step {T : Nat → Int} {n p : Nat} (h : p < n) (c : T p = 32) : skp T n (p + 1) = skp T n p := by
  unfold skp
  rw [show n - p = (n - (p + 1)) + 1 by omega, skF, if_pos c]
theorem skp_stay {T : Nat → Int} {n p : Nat} (c : T p ≠ 32) : skp T n p = p := by
  unfold skp
  cases h : n - p with
  | zero => rfl
  | succ m => rw [skF, if_neg c]
theorem dgF_spec (T : Nat → Int) : ∀ m p, p ≤ dgF T m p ∧ dgF T m p ≤ p + m ∧ (∀ j, p ≤ j → j < dgF T m p → 48 ≤ T j ∧ T j ≤ 57) ∧ (dgF T m p < p + m → ¬ (48 ≤ T (dgF T m p) ∧ T (dgF T m p) ≤ 57))
  | 0, p => ⟨Nat.le_refl _, Nat.le_refl _, fun j a b => by simp only [dgF] at b; omega, fun q => by simp only [dgF] at q; omega⟩
  | m + 1, p => by
    unfold dgF
    by_cases c : 48 ≤ T p ∧ T p ≤ 57
    · rw [if_pos c]
      obtain ⟨a1, a2, a3, a4⟩ := dgF_spec T m (p + 1)
      refine ⟨by omega, by omega, fun j h1 h2 => ?_, fun q => a4 (by omega)⟩
      by_cases e : j = p
      · subst e; exact c
      · exact a3 j (by omega) h2
    · rw [if_neg c]
      exact ⟨Nat.le_refl _, by omega, fun j h1 h2 => by omega, fun _ => c⟩
theorem dgE_spec (T : Nat → Int) (n p : Nat) : p ≤ dgE T n p ∧ (p ≤ n → dgE T n p ≤ n) ∧ (∀ j, p ≤ j → j < dgE T n p → 48 ≤ T j ∧ T j ≤ 57) := by
  have := dgF_spec T (n - p) p
  unfold dgE
  exact ⟨by omega, by omega, this.2.2.1⟩
theorem nvF_snoc (T : Nat → Int) : ∀ m p v, nvF T (m + 1) p v = nvF T m p v * 10 + T (p + m) - 48
  | 0, p, v => rfl
  | m + 1, p, v => by
    show nvF T (m + 1) (p + 1) (v * 10 + T p - 48) = nvF T m (p + 1) (v * 10 + T p - 48) * 10 + T (p + (m + 1)) - 48
    rw [nvF_snoc T m, show p + 1 + m = p + (m + 1) by omega]
theorem nvF_in (T : Nat → Int) (p : Nat) : ∀ m, (∀ j, p ≤ j → j < p + m → 48 ≤ T j ∧ T j ≤ 57) → 0 ≤ nvF T m p 0 ∧ nvF T m p 0 < 10 ^ m
  | 0, _ => by simp [nvF]
  | m + 1, h => by
    have i := nvF_in T p m (fun j a b => h j a (by omega))
    have t := h (p + m) (by omega) (by omega)
    rw [nvF_snoc, Int.pow_succ]
    omega
/-- a good number -/
theorem pnum_ok {T : Nat → Int} {n p q : Nat} {least v : Int} (hp : p ≤ n) (h : pnum T n least p = .ok (v, q)) : p < q ∧ q ≤ n ∧ least ≤ v ∧ 0 ≤ v ∧ v ≤ 99999 := by
  unfold pnum at h
  split at h
  · cases h
  · rename_i c
    cases h
    have s := skp_spec T n p
    have e := dgE_spec T n (skp T n p)
    unfold badN at c
    rw [decide_eq_true_iff] at c
    have i := nvF_in T (skp T n p) (dgE T n (skp T n p) - skp T n p) (fun j a b => e.2.2 j a (by omega))
    have m := (show ∀ m : Nat, m < 6 → (10 : Int) ^ m ≤ 100000 by decide) (dgE T n (skp T n p) - skp T n p) (by omega)
    omega
theorem pnum_bad {T : Nat → Int} {n p q : Nat} {least : Int} (h : pnum T n least p = .error q) : q = skp T n p := by
  unfold pnum at h
  split at h
  · cases h; rfl
  · cases h
theorem psnum_ok {T : Nat → Int} {n p q : Nat} {v : Int} (hp : p ≤ n) (h : psnum T n p = .ok (v, q)) : p < q ∧ q ≤ n ∧ -99999 ≤ v ∧ v ≤ 99999 := by
  have s := skp_spec T n p
  unfold psnum at h
  split at h
  · rename_i c
    have hl : skp T n p < n := by
      unfold sgA at c
      split at c
      · assumption
      · cases c
    cases hh : pnum T n 0 (skp T n p + 1) with
    | error r => rw [hh] at h; cases h
    | ok vz =>
      obtain ⟨w, r⟩ := vz
      rw [hh] at h
      cases h
      have := pnum_ok (by omega) hh
      omega
  · have := pnum_ok (by omega) h
    omega
/-- the orders so far, and those that wait for the end of their steps -/
abbrev PT : Type := (Nat → Int) × (Nat → Int) × (Nat → Int) × (Nat → Int) × (Nat) × (Nat) × (Nat → Int) × (Nat)
abbrev PT.mk (kd : Nat → Int) (fi : Nat → Int) (se : Nat → Int) (ta : Nat → Int) (od : Nat) (st : Nat) (wt : Nat → Int) (op : Nat) : PT := (kd, fi, se, ta, od, st, wt, op)
abbrev PT.kd (s : PT) : Nat → Int := s.1
abbrev PT.fi (s : PT) : Nat → Int := s.2.1
abbrev PT.se (s : PT) : Nat → Int := s.2.2.1
abbrev PT.ta (s : PT) : Nat → Int := s.2.2.2.1
abbrev PT.od (s : PT) : Nat := s.2.2.2.2.1
abbrev PT.st (s : PT) : Nat := s.2.2.2.2.2.1
abbrev PT.wt (s : PT) : Nat → Int := s.2.2.2.2.2.2.1
abbrev PT.op (s : PT) : Nat := s.2.2.2.2.2.2.2
theorem PT_kd {kd : Nat → Int} {fi : Nat → Int} {se : Nat → Int} {ta : Nat → Int} {od : Nat} {st : Nat} {wt : Nat → Int} {op : Nat} : (PT.mk kd fi se ta od st wt op).kd = kd := rfl
theorem PT_fi {kd : Nat → Int} {fi : Nat → Int} {se : Nat → Int} {ta : Nat → Int} {od : Nat} {st : Nat} {wt : Nat → Int} {op : Nat} : (PT.mk kd fi se ta od st wt op).fi = fi := rfl
theorem PT_se {kd : Nat → Int} {fi : Nat → Int} {se : Nat → Int} {ta : Nat → Int} {od : Nat} {st : Nat} {wt : Nat → Int} {op : Nat} : (PT.mk kd fi se ta od st wt op).se = se := rfl
theorem PT_ta {kd : Nat → Int} {fi : Nat → Int} {se : Nat → Int} {ta : Nat → Int} {od : Nat} {st : Nat} {wt : Nat → Int} {op : Nat} : (PT.mk kd fi se ta od st wt op).ta = ta := rfl
theorem PT_od {kd : Nat → Int} {fi : Nat → Int} {se : Nat → Int} {ta : Nat → Int} {od : Nat} {st : Nat} {wt : Nat → Int} {op : Nat} : (PT.mk kd fi se ta od st wt op).od = od := rfl
theorem PT_st {kd : Nat → Int} {fi : Nat → Int} {se : Nat → Int} {ta : Nat → Int} {od : Nat} {st : Nat} {wt : Nat → Int} {op : Nat} : (PT.mk kd fi se ta od st wt op).st = st := rfl
theorem PT_wt {kd : Nat → Int} {fi : Nat → Int} {se : Nat → Int} {ta : Nat → Int} {od : Nat} {st : Nat} {wt : Nat → Int} {op : Nat} : (PT.mk kd fi se ta od st wt op).wt = wt := rfl
theorem PT_op {kd : Nat → Int} {fi : Nat → Int} {se : Nat → Int} {ta : Nat → Int} {od : Nat} {st : Nat} {wt : Nat → Int} {op : Nat} : (PT.mk kd fi se ta od st wt op).op = op := rfl
def PT.add (s : PT) (k f e : Int) : PT := (PT.mk (updI s.kd s.od k) (updI s.fi s.od f) (updI s.se s.od e) s.ta (s.od + 1) s.st s.wt s.op)
def PT.step (s : PT) (k f e : Int) : PT := ((PT.mk s.kd s.fi s.se s.ta s.od (s.st + 1) s.wt s.op) : PT).add k f e
def PT.aim (s : PT) (j : Nat) : PT := (PT.mk s.kd s.fi s.se (updI s.ta j s.od) s.od s.st s.wt s.op)
def PT.push (s : PT) (j : Nat) : PT := (PT.mk s.kd s.fi s.se s.ta s.od s.st (updI s.wt s.op j) (s.op + 1))
def kindB (c : Int) : Int := if c = 76 then 1 else if c = 66 then 2 else if c = 74 then 3 else if c = 83 then 4 else if c = 87 then 5 else if c = 63 then 6 else -1
def condB (c : Int) : Int := if c = 99 then 6 else if c = 102 then 7 else if c = 111 then 8 else if c = 104 then 9 else -1
section TXT
variable (T : Nat → Int) (n : Nat)
/-- the far of a ?, behind its condition -/
def pfar (k : Int) (p : Nat) : PR Int := if k = 9 then pnum T n 0 p else .ok (0, p)
def pchoice (s : PT) (p : Nat) : PR PT := if condB (sgA T n 0 (skp T n p)) = -1 then .error (skp T n p) else
  match pfar T n (condB (sgA T n 0 (skp T n p))) (skp T n p + 1) with
  | .error q => .error q
  | .ok (f, q) => match popn T n s.op q with
    | .error r => .error r
    | .ok (_, r) => .ok (((s.step (condB (sgA T n 0 (skp T n p))) f 0).push s.od), r)
/-- what a step of kind k tells, its letter at p - 1 -/
def pargs (k : Int) (p : Nat) : PR (Int × Int) := if k = 5 then .ok ((0, 0), p) else
  match pnum T n (if k = 4 then 1 else 0) p with
  | .error q => .error q
  | .ok (f, q) => if k = 4 then (match pexp T n 47 q with
      | .error r => .error r
      | .ok (_, r) => match pnum T n 1 r with
        | .error u => .error u
        | .ok (g, u) => .ok ((f, g), u))
    else if k = 1 ∨ k = 3 then (match psnum T n q with
      | .error r => .error r
      | .ok (g, r) => .ok ((f, g), r))
    else .ok ((f, 0), q)
def pstep (s : PT) (c : Int) (q : Nat) : PR PT := if kindB c = -1 ∨ 12 ≤ s.st then .error q else if kindB c = 6 then pchoice T n s (q + 1) else
  match pargs T n (kindB c) (q + 1) with
  | .error r => .error r
  | .ok (a, r) => .ok ((s.step (kindB c) a.1 a.2), r)
/-- the ) at q -/
def pclose (s : PT) (q : Nat) : PR PT := if s.kd (s.wt (s.op - 1)).toNat = 10 ∨ sgA T n 0 (skp T n (q + 1)) ≠ 58 then .ok ((((PT.mk s.kd s.fi s.se s.ta s.od s.st s.wt (s.op - 1)) : PT).aim (s.wt (s.op - 1)).toNat), (skp T n (q + 1))) else
  match popn T n (s.op - 1) (skp T n (q + 1) + 1) with
  | .error r => .error r
  | .ok (_, r) => .ok ((((((PT.mk s.kd s.fi (updI s.se (s.wt (s.op - 1)).toNat 1) s.ta s.od s.st s.wt (s.op - 1)) : PT).add 10 0 0).push s.od).aim (s.wt (s.op - 1)).toNat), r)
abbrev IT : Type := Except Nat (Option PT × Nat)
def PR.it : PR PT → IT
  | .error p => .error p
  | .ok (s, p) => .ok (some s, p)
def pitem (s : PT) (p : Nat) : IT := if sgA T n 0 (skp T n p) = 41 ∧ 0 < s.op then (pclose T n s (skp T n p)).it else if sgA T n 0 (skp T n p) = 125 ∧ s.op = 0 then .ok (none, (skp T n p + 1)) else (pstep T n s (sgA T n 0 (skp T n p)) (skp T n p)).it
def ptmpl : Nat → PT → Nat → PR PT
  | 0, _, p => .error p
  | F + 1, s, p => match pitem T n s p with
    | .error q => .error q
    | .ok (none, q) => .ok (s, q)
    | .ok (some s', q) => ptmpl F s' q
/-- k templates so far, behind the blanks at p -/
def pall : Nat → PT → (Nat → Int) → Nat → Nat → PR (PT × (Nat → Int) × Nat)
  | 0, _, _, _, p => .error p
  | F + 1, s, en, k, p => if n ≤ p ∧ 0 < k then .ok ((s, en, k), p) else if 6 ≤ k then .error p else
    match pexp T n 123 p with
    | .error q => .error q
    | .ok (_, q) => match ptmpl T n 500 (PT.mk s.kd s.fi s.se s.ta s.od (0) s.wt (0)) q with
      | .error r => .error r
      | .ok (s', r) => pall F s' (updI en k s'.od) (k + 1) (skp T n r)
end TXT
/-! what holds of the orders of a template -/
def rowOK (kd fi se : Nat → Int) (j : Nat) : Prop := 1 ≤ kd j ∧ kd j ≤ 10 ∧ 0 ≤ fi j ∧ fi j ≤ 99999 ∧ -99999 ≤ se j ∧ se j ≤ 99999 ∧ (kd j = 4 → 1 ≤ fi j ∧ 1 ≤ se j) ∧ (6 ≤ kd j → se j = 0 ∨ se j = 1)
/-- how many orders of [b, b + m) are no leaps -/
def cntR (kd : Nat → Int) (b : Nat) : Nat → Nat
  | 0 => 0
  | m + 1 => cntR kd b m + if kd (b + m) = 10 then 0 else 1
/-- how many of the first m that wait are no leaps -/
def oaF (kd wt : Nat → Int) : Nat → Nat
  | 0 => 0
  | m + 1 => oaF kd wt m + if kd (wt m).toNat = 10 then 0 else 1
theorem cntR_congr {kd kd' : Nat → Int} {b : Nat} : ∀ m, (∀ j, b ≤ j → j < b + m → kd j = kd' j) → cntR kd b m = cntR kd' b m
  | 0, _ => rfl
  | m + 1, h => by rw [cntR, cntR, cntR_congr m (fun j a c => h j a (by omega)), h (b + m) (by omega) (by omega)]
theorem oaF_congr {kd kd' wt wt' : Nat → Int} : ∀ m, (∀ i, i < m → kd (wt i).toNat = kd' (wt' i).toNat) → oaF kd wt m = oaF kd' wt' m
  | 0, _ => rfl
  | m + 1, h => by rw [oaF, oaF, oaF_congr m (fun i a => h i (by omega)), h m (by omega)]
def InvT (b : Nat) (s : PT) : Prop :=
  (b ≤ s.od) ∧
  (∀ j, b ≤ j → j < s.od → rowOK s.kd s.fi s.se j) ∧
  (s.op ≤ 5) ∧
  (∀ i, i < s.op → (b : Int) ≤ s.wt i ∧ s.wt i < s.od ∧ 6 ≤ s.kd (s.wt i).toNat) ∧
  (∀ i j, i < j → j < s.op → s.wt i < s.wt j) ∧
  (∀ j, b ≤ j → j < s.od → 6 ≤ s.kd j → (∀ i, i < s.op → s.wt i ≠ j) → (j : Int) < s.ta j ∧ s.ta j ≤ s.od) ∧
  (cntR s.kd b (s.od - b) = s.st) ∧
  (s.st ≤ 12) ∧
  (s.od + oaF s.kd s.wt s.op ≤ b + 2 * s.st)
theorem InvT.hb {b : Nat} {s : PT} (zz : InvT b s) : b ≤ s.od := zz.1
theorem InvT.row {b : Nat} {s : PT} (zz : InvT b s) : ∀ j, b ≤ j → j < s.od → rowOK s.kd s.fi s.se j := zz.2.1
theorem InvT.op5 {b : Nat} {s : PT} (zz : InvT b s) : s.op ≤ 5 := zz.2.2.1
theorem InvT.wtb {b : Nat} {s : PT} (zz : InvT b s) : ∀ i, i < s.op → (b : Int) ≤ s.wt i ∧ s.wt i < s.od ∧ 6 ≤ s.kd (s.wt i).toNat := zz.2.2.2.1
theorem InvT.wtm {b : Nat} {s : PT} (zz : InvT b s) : ∀ i j, i < j → j < s.op → s.wt i < s.wt j := zz.2.2.2.2.1
theorem InvT.tar {b : Nat} {s : PT} (zz : InvT b s) : ∀ j, b ≤ j → j < s.od → 6 ≤ s.kd j → (∀ i, i < s.op → s.wt i ≠ j) → (j : Int) < s.ta j ∧ s.ta j ≤ s.od := zz.2.2.2.2.2.1
theorem InvT.cnt {b : Nat} {s : PT} (zz : InvT b s) : cntR s.kd b (s.od - b) = s.st := zz.2.2.2.2.2.2.1
theorem InvT.st12 {b : Nat} {s : PT} (zz : InvT b s) : s.st ≤ 12 := zz.2.2.2.2.2.2.2.1
theorem InvT.num {b : Nat} {s : PT} (zz : InvT b s) : s.od + oaF s.kd s.wt s.op ≤ b + 2 * s.st := zz.2.2.2.2.2.2.2.2
theorem InvT.add {b : Nat} {s : PT} {k f e : Int} (w : InvT b s) (hk : 1 ≤ k ∧ k < 10) (hs : s.st < 12) (hf : 0 ≤ f ∧ f ≤ 99999) (he : -99999 ≤ e ∧ e ≤ 99999) (h4 : k = 4 → 1 ≤ f ∧ 1 ≤ e) (h6 : k < 6) : InvT b (s.step k f e) := by
  obtain ⟨hb, row, op5, wtb, wtm, tar, cnt, st12, num⟩ := w
  have kne : ∀ j, j < s.od → updI s.kd s.od k j = s.kd j := fun j h => updI_n (by omega)
  refine ⟨?_, ?_, ?_, ?_, ?_, ?_, ?_, ?_, ?_⟩
  all_goals simp only [PT.step, PT.add, PT_kd, PT_fi, PT_se, PT_ta, PT_od, PT_st, PT_wt, PT_op]
  · omega
  · intro j h1 h2
    by_cases q : j = s.od
    · subst q
      simp only [rowOK, updI_s]
      exact ⟨by omega, by omega, hf.1, hf.2, he.1, he.2, h4, fun _ => by omega⟩
    · have := row j h1 (by omega)
      simp only [rowOK] at this ⊢
      rw [updI_n q, updI_n q, updI_n q]
      exact this
  · exact op5
  · intro i hi
    have := wtb i hi
    rw [kne _ (by omega)]
    exact ⟨this.1, by omega, this.2.2⟩
  · exact wtm
  · intro j h1 h2 h3 h4
    by_cases q : j = s.od
    · subst q
      rw [updI_s] at h3
      omega
    · rw [updI_n q] at h3
      have := tar j h1 (by omega) h3 h4
      exact ⟨this.1, by omega⟩
  · rw [show s.od + 1 - b = (s.od - b) + 1 by omega, cntR, cntR_congr (kd' := s.kd) _ (fun j a c => kne j (by omega)), cnt, show b + (s.od - b) = s.od by omega, updI_s, if_neg (by omega)]
  · omega
  · rw [oaF_congr (kd' := s.kd) (wt' := s.wt) _ (fun i hi => kne _ (by have := wtb i hi; omega))]
    omega
theorem InvT.ask {b : Nat} {s : PT} {k f : Int} (w : InvT b s) (hk : 6 ≤ k ∧ k < 10) (hs : s.st < 12) (hf : 0 ≤ f ∧ f ≤ 99999) (ho : s.op < 5) : InvT b ((s.step k f 0).push s.od) := by
  obtain ⟨hb, row, op5, wtb, wtm, tar, cnt, st12, num⟩ := w
  have kne : ∀ j, j < s.od → updI s.kd s.od k j = s.kd j := fun j h => updI_n (by omega)
  have wne : ∀ i, i < s.op → updI s.wt s.op s.od i = s.wt i := fun j h => updI_n (by omega)
  have wself : updI s.wt s.op s.od s.op = s.od := updI_s _ _ _
  refine ⟨?_, ?_, ?_, ?_, ?_, ?_, ?_, ?_, ?_⟩
  all_goals simp only [PT.step, PT.add, PT.push, PT_kd, PT_fi, PT_se, PT_ta, PT_od, PT_st, PT_wt, PT_op]
  · omega
  · intro j h1 h2
    by_cases q : j = s.od
    · subst q
      simp only [rowOK, updI_s]
      exact ⟨by omega, by omega, hf.1, hf.2, by omega, by omega, fun _ => by omega, fun _ => by simp⟩
    · have := row j h1 (by omega)
      simp only [rowOK] at this ⊢
      rw [updI_n q, updI_n q, updI_n q]
      exact this
  · omega
  · intro i hi
    by_cases q : i = s.op
    · subst q
      rw [wself, Int.toNat_natCast, updI_s]
      omega
    · have := wtb i (by omega)
      rw [wne i (by omega), kne _ (by omega)]
      exact ⟨this.1, by omega, this.2.2⟩
  · intro i j h1 h2
    rw [wne i (by omega)]
    by_cases q : j = s.op
    · subst q
      rw [wself]
      exact (wtb i (by omega)).2.1
    · rw [wne j (by omega)]
      exact wtm i j h1 (by omega)
  · intro j h1 h2 h3 h4
    by_cases q : j = s.od
    · subst q
      exact absurd wself (h4 s.op (by omega))
    · rw [updI_n q] at h3
      have := tar j h1 (by omega) h3 (fun i hi => by have := h4 i (by omega); rwa [wne i hi] at this)
      exact ⟨this.1, by omega⟩
  · rw [show s.od + 1 - b = (s.od - b) + 1 by omega, cntR, cntR_congr (kd' := s.kd) _ (fun j a c => kne j (by omega)), cnt, show b + (s.od - b) = s.od by omega, updI_s, if_neg (by omega)]
  · omega
  · rw [oaF, oaF_congr (kd' := s.kd) (wt' := s.wt) _ (fun i hi => by rw [wne i hi]; exact kne _ (by have := wtb i hi; omega)), wself, Int.toNat_natCast, updI_s, if_neg (by omega)]
    omega
theorem InvT.pop {b : Nat} {s : PT} (w : InvT b s) (ho : 0 < s.op) : InvT b (((PT.mk s.kd s.fi s.se s.ta s.od s.st s.wt (s.op - 1)) : PT).aim (s.wt (s.op - 1)).toNat) := by
  obtain ⟨hb, row, op5, wtb, wtm, tar, cnt, st12, num⟩ := w
  have wl := wtb (s.op - 1) (by omega)
  refine ⟨hb, row, ?_, ?_, ?_, ?_, cnt, st12, ?_⟩
  all_goals simp only [PT.aim, PT_kd, PT_fi, PT_se, PT_ta, PT_od, PT_st, PT_wt, PT_op]
  · omega
  · exact fun i hi => wtb i (by omega)
  · exact fun i j h1 h2 => wtm i j h1 (by omega)
  · intro j h1 h2 h3 h4
    by_cases q : j = (s.wt (s.op - 1)).toNat
    · rw [q, updI_s]
      omega
    · rw [updI_n q]
      refine tar j h1 h2 h3 (fun i hi => ?_)
      by_cases q2 : i = s.op - 1
      · subst q2; omega
      · exact h4 i (by omega)
  · have : oaF s.kd s.wt (s.op - 1) ≤ oaF s.kd s.wt s.op := by
      rw [show s.op = (s.op - 1) + 1 by omega, oaF, show s.op - 1 + 1 - 1 = s.op - 1 by omega]
      omega
    omega
theorem InvT.leap {b : Nat} {s : PT} (w : InvT b s) (ho : 0 < s.op) (hk : s.kd (s.wt (s.op - 1)).toNat ≠ 10) : InvT b (((((PT.mk s.kd s.fi (updI s.se (s.wt (s.op - 1)).toNat 1) s.ta s.od s.st s.wt (s.op - 1)) : PT).add 10 0 0).push s.od).aim (s.wt (s.op - 1)).toNat) := by
  obtain ⟨hb, row, op5, wtb, wtm, tar, cnt, st12, num⟩ := w
  have wl := wtb (s.op - 1) (by omega)
  have kne : ∀ j, j < s.od → updI s.kd s.od 10 j = s.kd j := fun j h => updI_n (by omega)
  have wne : ∀ i, i < s.op - 1 → updI s.wt (s.op - 1) s.od i = s.wt i := fun j h => updI_n (by omega)
  have wself : updI s.wt (s.op - 1) s.od (s.op - 1) = s.od := updI_s _ _ _
  refine ⟨?_, ?_, ?_, ?_, ?_, ?_, ?_, ?_, ?_⟩
  all_goals simp only [PT.add, PT.push, PT.aim, PT_kd, PT_fi, PT_se, PT_ta, PT_od, PT_st, PT_wt, PT_op]
  · omega
  · intro j h1 h2
    by_cases q : j = s.od
    · subst q
      simp only [rowOK, updI_s]
      exact ⟨by omega, by omega, by omega, by omega, by omega, by omega, fun _ => by omega, fun _ => by simp⟩
    · have r := row j h1 (by omega)
      simp only [rowOK] at r ⊢
      rw [updI_n q, updI_n q, updI_n q]
      by_cases q2 : j = (s.wt (s.op - 1)).toNat
      · rw [q2, updI_s]
        rw [q2] at r
        refine ⟨r.1, r.2.1, r.2.2.1, r.2.2.2.1, by omega, by omega, fun _ => by omega, fun _ => Or.inr rfl⟩
      · rw [updI_n q2]
        exact r
  · omega
  · intro i hi
    by_cases q : i = s.op - 1
    · subst q
      rw [wself, Int.toNat_natCast, updI_s]
      omega
    · have := wtb i (by omega)
      rw [wne i (by omega), kne _ (by omega)]
      exact ⟨this.1, by omega, this.2.2⟩
  · intro i j h1 h2
    rw [wne i (by omega)]
    by_cases q : j = s.op - 1
    · subst q
      rw [wself]
      exact (wtb i (by omega)).2.1
    · rw [wne j (by omega)]
      exact wtm i j h1 (by omega)
  · intro j h1 h2 h3 h4
    by_cases q : j = s.od
    · subst q
      exact absurd wself (h4 (s.op - 1) (by omega))
    · rw [updI_n q] at h3
      by_cases q2 : j = (s.wt (s.op - 1)).toNat
      · rw [q2, updI_s]
        omega
      · rw [updI_n q2]
        have := tar j h1 (by omega) h3 (fun i hi => by
          by_cases q3 : i = s.op - 1
          · subst q3; omega
          · have := h4 i (by omega)
            rwa [wne i (by omega)] at this)
        exact ⟨this.1, by omega⟩
  · rw [show s.od + 1 - b = (s.od - b) + 1 by omega, cntR, cntR_congr (kd' := s.kd) _ (fun j a c => kne j (by omega)), cnt, show b + (s.od - b) = s.od by omega, updI_s, if_pos rfl]
    omega
  · omega
  · rw [oaF, oaF_congr (kd' := s.kd) (wt' := s.wt) _ (fun i hi => by rw [wne i hi]; exact kne _ (by have := wtb i (by omega); omega)), wself, Int.toNat_natCast, updI_s, if_pos rfl]
    have : oaF s.kd s.wt s.op = oaF s.kd s.wt (s.op - 1) + 1 := by
      rw [show s.op = (s.op - 1) + 1 by omega, oaF, show s.op - 1 + 1 - 1 = s.op - 1 by omega, if_neg hk]
    omega
theorem sgA_lt {T : Nat → Int} {n p : Nat} {c : Int} (h : sgA T n 0 p = c) (hc : c ≠ 0) : p < n := by
  unfold sgA at h
  split at h
  · assumption
  · exact absurd h.symm hc
theorem sgA_at {T : Nat → Int} {n p : Nat} {e : Int} (h : p < n) : sgA T n e p = T p := if_pos h
theorem sgA_out {T : Nat → Int} {n p : Nat} {e : Int} (h : ¬ p < n) : sgA T n e p = e := if_neg h
theorem kindB_cases (c : Int) : (c = 76 ∧ kindB c = 1) ∨ (c = 66 ∧ kindB c = 2) ∨ (c = 74 ∧ kindB c = 3) ∨ (c = 83 ∧ kindB c = 4) ∨ (c = 87 ∧ kindB c = 5) ∨ (c = 63 ∧ kindB c = 6) ∨ ((c ≠ 76 ∧ c ≠ 66 ∧ c ≠ 74 ∧ c ≠ 83 ∧ c ≠ 87 ∧ c ≠ 63) ∧ kindB c = -1) := by
  unfold kindB
  split
  · exact Or.inl ⟨by assumption, rfl⟩
  split
  · exact Or.inr (Or.inl ⟨by assumption, rfl⟩)
  split
  · exact Or.inr (Or.inr (Or.inl ⟨by assumption, rfl⟩))
  split
  · exact Or.inr (Or.inr (Or.inr (Or.inl ⟨by assumption, rfl⟩)))
  split
  · exact Or.inr (Or.inr (Or.inr (Or.inr (Or.inl ⟨by assumption, rfl⟩))))
  split
  · exact Or.inr (Or.inr (Or.inr (Or.inr (Or.inr (Or.inl ⟨by assumption, rfl⟩)))))
  · exact Or.inr (Or.inr (Or.inr (Or.inr (Or.inr (Or.inr ⟨by omega, rfl⟩)))))
theorem condB_cases (c : Int) : (c = 99 ∧ condB c = 6) ∨ (c = 102 ∧ condB c = 7) ∨ (c = 111 ∧ condB c = 8) ∨ (c = 104 ∧ condB c = 9) ∨ ((c ≠ 99 ∧ c ≠ 102 ∧ c ≠ 111 ∧ c ≠ 104) ∧ condB c = -1) := by
  unfold condB
  split
  · exact Or.inl ⟨by assumption, rfl⟩
  split
  · exact Or.inr (Or.inl ⟨by assumption, rfl⟩)
  split
  · exact Or.inr (Or.inr (Or.inl ⟨by assumption, rfl⟩))
  split
  · exact Or.inr (Or.inr (Or.inr (Or.inl ⟨by assumption, rfl⟩)))
  · exact Or.inr (Or.inr (Or.inr (Or.inr ⟨by omega, rfl⟩)))
theorem pexp_ok {T : Nat → Int} {n p q : Nat} {c : Int} (hp : p ≤ n) (hc : c ≠ 0) (h : pexp T n c p = .ok ((), q)) : p < q ∧ q ≤ n := by
  unfold pexp at h
  split at h
  · rename_i a
    cases h
    have := sgA_lt a hc
    have := skp_spec T n p
    omega
  · cases h
theorem popn_ok {T : Nat → Int} {n p q op : Nat} (hp : p ≤ n) (h : popn T n op p = .ok ((), q)) : p < q ∧ q ≤ n ∧ op < 5 := by
  unfold popn at h
  split at h
  · cases h
  · rename_i a
    cases h
    have := sgA_lt (T := T) (n := n) (p := skp T n p) (c := 40) (by omega) (by decide)
    have := skp_spec T n p
    omega
theorem pfar_ok {T : Nat → Int} {n p q : Nat} {k f : Int} (hp : p ≤ n) (h : pfar T n k p = .ok (f, q)) : p ≤ q ∧ q ≤ n ∧ 0 ≤ f ∧ f ≤ 99999 := by
  unfold pfar at h
  split at h
  · have := pnum_ok hp h
    omega
  · cases h
    omega
theorem pargs_ok {T : Nat → Int} {n p q : Nat} {k : Int} {a : Int × Int} (hp : p ≤ n) (h : pargs T n k p = .ok (a, q)) : p ≤ q ∧ q ≤ n ∧ 0 ≤ a.1 ∧ a.1 ≤ 99999 ∧ -99999 ≤ a.2 ∧ a.2 ≤ 99999 ∧ (k = 4 → 1 ≤ a.1 ∧ 1 ≤ a.2) := by
  unfold pargs at h
  split at h
  · cases h
    simp only
    omega
  · split at h
    · cases h
    · rename_i f r hf
      have b := pnum_ok hp hf
      split at h
      · rename_i k4
        rw [if_pos k4] at b
        split at h
        · cases h
        · rename_i u he
          have b2 := pexp_ok (by omega) (by decide) he
          split at h
          · cases h
          · rename_i g u2 hg
            have b3 := pnum_ok (by omega) hg
            cases h
            simp only
            omega
      · split at h
        · split at h
          · cases h
          · rename_i g u2 hg
            have b3 := psnum_ok (by omega) hg
            cases h
            simp only
            split at b <;> omega
        · cases h
          simp only
          split at b <;> omega
theorem pitem_more {T : Nat → Int} {n p q b : Nat} {s s' : PT} (w : InvT b s) (hp : p ≤ n) (h : pitem T n s p = .ok (some s', q)) : InvT b s' ∧ p < q ∧ q ≤ n := by
  have sk := skp_spec T n p
  unfold pitem at h
  split at h
  · rename_i c
    have l := sgA_lt c.1 (by decide)
    have sk2 := skp_spec T n (skp T n p + 1)
    unfold pclose at h
    split at h
    · cases h
      exact ⟨w.pop c.2, by omega, by omega⟩
    · rename_i c2
      split at h
      · cases h
      · rename_i r hr
        cases h
        have l2 := sgA_lt (T := T) (n := n) (p := skp T n (skp T n p + 1)) (c := 58) (by omega) (by decide)
        have := popn_ok (by omega) hr
        exact ⟨w.leap c.2 (by omega), by omega, by omega⟩
  · split at h
    · cases h
    · unfold pstep at h
      split at h
      · cases h
      · rename_i c
        have kc := kindB_cases (sgA T n 0 (skp T n p))
        have l : skp T n p < n := by
          refine Decidable.byContradiction fun q => ?_
          rw [sgA_out q] at kc
          rw [sgA_out q] at c
          omega
        split at h
        · unfold pchoice at h
          split at h
          · cases h
          · rename_i c3
            have kc3 := condB_cases (sgA T n 0 (skp T n (skp T n p + 1)))
            have sk3 := skp_spec T n (skp T n p + 1)
            have l3 : skp T n (skp T n p + 1) < n := by
              refine Decidable.byContradiction fun q => ?_
              rw [sgA_out q] at kc3
              rw [sgA_out q] at c3
              omega
            split at h
            · cases h
            · rename_i f r hf
              have b1 := pfar_ok (by omega) hf
              split at h
              · cases h
              · rename_i u hu
                have b2 := popn_ok (by omega) hu
                cases h
                exact ⟨w.ask (by omega) (by omega) (by omega) b2.2.2, by omega, by omega⟩
        · split at h
          · cases h
          · rename_i a r ha
            have b1 := pargs_ok (by omega) ha
            cases h
            exact ⟨w.add (by omega) (by omega) (by omega) (by omega) b1.2.2.2.2.2.2 (by omega), by omega, by omega⟩
theorem pitem_fin {T : Nat → Int} {n p q : Nat} {s : PT} (hp : p ≤ n) (h : pitem T n s p = .ok (none, q)) : s.op = 0 ∧ p < q ∧ q ≤ n := by
  have sk := skp_spec T n p
  unfold pitem at h
  split at h
  · unfold pclose at h
    split at h
    · cases h
    · split at h <;> cases h
  · split at h
    · rename_i c
      have l := sgA_lt c.1 (by decide)
      cases h
      exact ⟨c.2, by omega, by omega⟩
    · unfold pstep at h
      split at h
      · cases h
      · split at h
        · unfold pchoice at h
          split at h
          · cases h
          · split at h
            · cases h
            · split at h <;> cases h
        · split at h <;> cases h
theorem ptmpl_ok {T : Nat → Int} {n b : Nat} : ∀ (F : Nat) {s s' : PT} {p q : Nat}, InvT b s → p ≤ n → ptmpl T n F s p = .ok (s', q) → InvT b s' ∧ s'.op = 0 ∧ p < q ∧ q ≤ n
  | 0, _, _, _, _, _, _, h => by cases h
  | F + 1, s, s', p, q, w, hp, h => by
    unfold ptmpl at h
    split at h
    · cases h
    · rename_i r hr
      have := pitem_fin hp hr
      cases h
      exact ⟨w, this⟩
    · rename_i s2 r hr
      have a := pitem_more w hp hr
      have := ptmpl_ok F a.1 a.2.2 h
      exact ⟨this.1, this.2.1, by omega, this.2.2.2⟩
/-- templates as a walk needs them: k of them, en their ends -/
def stOf (en : Nat → Int) (t : Nat) : Nat := if t = 0 then 0 else (en (t - 1)).toNat
def GT (kd fi se ta en : Nat → Int) (od k : Nat) : Prop :=
  (k ≤ 6) ∧
  (k = 0 ∨ en (k - 1) = od) ∧
  (k = 0 → od = 0) ∧
  (∀ t, t < k → (stOf en t : Int) ≤ en t ∧ en t ≤ od ∧ en t ≤ stOf en t + 24) ∧
  (∀ t, t < k → cntR kd (stOf en t) ((en t).toNat - stOf en t) ≤ 12) ∧
  (∀ j, j < od → rowOK kd fi se j) ∧
  (∀ t j, t < k → stOf en t ≤ j → (j : Int) < en t → 6 ≤ kd j → (j : Int) < ta j ∧ ta j ≤ en t)
theorem GT.k6 {kd fi se ta en : Nat → Int} {od k : Nat} (zz : GT kd fi se ta en od k) : k ≤ 6 := zz.1
theorem GT.last {kd fi se ta en : Nat → Int} {od k : Nat} (zz : GT kd fi se ta en od k) : k = 0 ∨ en (k - 1) = od := zz.2.1
theorem GT.od0 {kd fi se ta en : Nat → Int} {od k : Nat} (zz : GT kd fi se ta en od k) : k = 0 → od = 0 := zz.2.2.1
theorem GT.mono {kd fi se ta en : Nat → Int} {od k : Nat} (zz : GT kd fi se ta en od k) : ∀ t, t < k → (stOf en t : Int) ≤ en t ∧ en t ≤ od ∧ en t ≤ stOf en t + 24 := zz.2.2.2.1
theorem GT.cnt {kd fi se ta en : Nat → Int} {od k : Nat} (zz : GT kd fi se ta en od k) : ∀ t, t < k → cntR kd (stOf en t) ((en t).toNat - stOf en t) ≤ 12 := zz.2.2.2.2.1
theorem GT.row {kd fi se ta en : Nat → Int} {od k : Nat} (zz : GT kd fi se ta en od k) : ∀ j, j < od → rowOK kd fi se j := zz.2.2.2.2.2.1
theorem GT.tar {kd fi se ta en : Nat → Int} {od k : Nat} (zz : GT kd fi se ta en od k) : ∀ t j, t < k → stOf en t ≤ j → (j : Int) < en t → 6 ≤ kd j → (j : Int) < ta j ∧ ta j ≤ en t := zz.2.2.2.2.2.2
theorem stOf_succ {en : Nat → Int} {k : Nat} {x : Int} {t : Nat} (h : t < k) : stOf (updI en k x) t = stOf en t := by
  unfold stOf
  split
  · rfl
  · rw [updI_n (by omega)]
def keptB (b : Nat) (s s' : PT) : Prop := ∀ j, j < b → s'.kd j = s.kd j ∧ s'.fi j = s.fi j ∧ s'.se j = s.se j ∧ s'.ta j = s.ta j
theorem keptB.add {b : Nat} {s : PT} (k f e : Int) (h : b ≤ s.od) : keptB b s (s.step k f e) := fun j hj => by
  dsimp only [PT.step, PT.add, PT_kd, PT_fi, PT_se, PT_ta, PT_od, PT_st, PT_wt, PT_op]
  rw [updI_n (by omega), updI_n (by omega), updI_n (by omega)]
  exact ⟨rfl, rfl, rfl, rfl⟩
theorem pitem_kept {T : Nat → Int} {n p q b : Nat} {s s' : PT} (w : InvT b s) (h : pitem T n s p = .ok (some s', q)) : keptB b s s' := by
  unfold pitem at h
  split at h
  · rename_i c
    have wl := w.wtb (s.op - 1) (by omega)
    have hb := w.hb
    unfold pclose at h
    split at h
    · cases h
      intro j hj
      dsimp only [PT.aim, PT_kd, PT_fi, PT_se, PT_ta, PT_od, PT_st, PT_wt, PT_op]
      rw [updI_n (by omega)]
      exact ⟨rfl, rfl, rfl, rfl⟩
    · split at h
      · cases h
      · cases h
        intro j hj
        dsimp only [PT.aim, PT.add, PT.push, PT_kd, PT_fi, PT_se, PT_ta, PT_od, PT_st, PT_wt, PT_op]
        rw [updI_n (by omega), updI_n (by omega), updI_n (by omega), updI_n (by omega), updI_n (by omega)]
        exact ⟨rfl, rfl, rfl, rfl⟩
  · split at h
    · cases h
    · unfold pstep at h
      split at h
      · cases h
      · split at h
        · unfold pchoice at h
          split at h
          · cases h
          · split at h
            · cases h
            · split at h
              · cases h
              · cases h
                exact keptB.add _ _ _ w.hb
        · split at h
          · cases h
          · cases h
            exact keptB.add _ _ _ w.hb
theorem ptmpl_kept {T : Nat → Int} {n b : Nat} : ∀ (F : Nat) {s s' : PT} {p q : Nat}, InvT b s → p ≤ n → ptmpl T n F s p = .ok (s', q) → keptB b s s'
  | 0, _, _, _, _, _, _, h => by cases h
  | F + 1, s, s', p, q, w, hp, h => by
    unfold ptmpl at h
    split at h
    · cases h
    · cases h
      exact fun j _ => ⟨rfl, rfl, rfl, rfl⟩
    · rename_i s2 r hr
      have a := pitem_more w hp hr
      have k1 := pitem_kept w hr
      have k2 := ptmpl_kept F a.1 a.2.2 h
      intro j hj
      have x := k1 j hj
      have y := k2 j hj
      exact ⟨y.1.trans x.1, y.2.1.trans x.2.1, y.2.2.1.trans x.2.2.1, y.2.2.2.trans x.2.2.2⟩
theorem InvT.start (s : PT) : InvT s.od (PT.mk s.kd s.fi s.se s.ta s.od (0) s.wt (0)) := by
  refine ⟨Nat.le_refl _, fun j a b => absurd b (Nat.not_lt.mpr a), Nat.zero_le _, fun i hi => absurd hi (Nat.not_lt_zero _), fun i j _ hi => absurd hi (Nat.not_lt_zero _), fun j a b => absurd b (Nat.not_lt.mpr a), ?_, Nat.zero_le _, ?_⟩
  · show cntR s.kd s.od (s.od - s.od) = 0
    rw [Nat.sub_self]; rfl
  · show s.od + 0 ≤ s.od + 2 * 0
    omega
theorem GT.next {T : Nat → Int} {n k p q : Nat} {s s' : PT} {en : Nat → Int} (g : GT s.kd s.fi s.se s.ta en s.od k) (hk : k < 6) (hp : p ≤ n) (h : ptmpl T n 500 (PT.mk s.kd s.fi s.se s.ta s.od (0) s.wt (0)) p = .ok (s', q)) : GT s'.kd s'.fi s'.se s'.ta (updI en k s'.od) s'.od (k + 1) := by
  have w := ptmpl_ok 500 (InvT.start s) hp h
  have kp := ptmpl_kept 500 (InvT.start s) hp h
  obtain ⟨⟨hb, row, op5, wtb, wtm, tar, cnt, st12, num⟩, op0, -, -⟩ := w
  have e0 : stOf en k = s.od := by
    unfold stOf
    split
    · rename_i c; exact (g.od0 c).symm
    · rcases g.last with c | c
      · omega
      · rw [c, Int.toNat_natCast]
  have eS : stOf (updI en k s'.od) k = s.od := by
    rw [← e0]
    unfold stOf
    split
    · rfl
    · rw [updI_n (by omega)]
  refine ⟨by omega, Or.inr ?_, fun q => by omega, ?_, ?_, ?_, ?_⟩
  · rw [Nat.add_sub_cancel, updI_s]
  · intro t ht
    by_cases c : t = k
    · subst c
      rw [eS, updI_s]
      omega
    · rw [stOf_succ (by omega), updI_n c]
      have := g.mono t (by omega)
      omega
  · intro t ht
    by_cases c : t = k
    · subst c
      rw [eS, updI_s, Int.toNat_natCast, cnt]
      exact st12
    · rw [stOf_succ (by omega), updI_n c]
      have m := g.mono t (by omega)
      rw [cntR_congr (kd' := s.kd) _ (fun j a b => (kp j (by omega)).1)]
      exact g.cnt t (by omega)
  · intro j hj
    by_cases c : j < s.od
    · have := kp j c
      have r := g.row j c
      simp only [rowOK] at r ⊢
      rw [this.1, this.2.1, this.2.2.1]
      exact r
    · exact row j (by omega) hj
  · intro t j ht h1 h2 h3
    by_cases c : t = k
    · subst c
      rw [eS] at h1
      rw [updI_s] at h2 ⊢
      exact tar j h1 (by omega) h3 (fun i hi => by omega)
    · rw [stOf_succ (by omega)] at h1
      rw [updI_n c] at h2 ⊢
      have m := g.mono t (by omega)
      have e := kp j (by omega)
      rw [e.1] at h3
      rw [e.2.2.2]
      exact g.tar t j (by omega) h1 h2 h3
theorem GT.none (kd fi se ta en : Nat → Int) : GT kd fi se ta en 0 0 := ⟨by omega, Or.inl rfl, fun _ => rfl, fun t h => by omega, fun t h => by omega, fun j h => by omega, fun t j h => by omega⟩
theorem pall_ok {T : Nat → Int} {n : Nat} : ∀ (F : Nat) {s s' : PT} {en en' : Nat → Int} {k k' p q : Nat}, GT s.kd s.fi s.se s.ta en s.od k → p ≤ n → pall T n F s en k p = .ok ((s', en', k'), q) → GT s'.kd s'.fi s'.se s'.ta en' s'.od k' ∧ 0 < k'
  | 0, _, _, _, _, _, _, _, _, _, _, h => by cases h
  | F + 1, s, s', en, en', k, k', p, q, g, hp, h => by
    unfold pall at h
    split at h
    · rename_i c
      cases h
      exact ⟨g, c.2⟩
    · split at h
      · cases h
      · split at h
        · cases h
        · rename_i c r hr
          have a := pexp_ok hp (by decide) hr
          split at h
          · cases h
          · rename_i s2 u hu
            have b := ptmpl_ok 500 (InvT.start s) a.2 hu
            exact pall_ok F (g.next (by omega) a.2 hu) ((skp_spec T n u).2.1 b.2.2.2) h
