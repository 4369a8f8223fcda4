/-! THE REFERENCE READS: steps, questions, ends -/
section RRG
variable {X : Nat × (Nat → Int32)} {h0 h h' : am_H} {o o' o'' : Nat → Int} {A A' A'' : Nat → Nat → Int} {F F' : Nat → Rat} {T : Nat → Int} {n : Nat}
/-- what a reading of orders leaves -/
def rpQ (h0 : am_H) (o : Nat → Int) (F : Nat → Rat) (A : Nat → Nat → Int) (T : Nat → Int) (n : Nat) (P : PR PT) : Option Value → am_H → Prop := fun r h' => ∃ o' A', FW h0 h' o' F A' ∧ kpO o o' ∧ kpA A A' ∧ ((∃ (s' : PT) (q' p' : Nat), P = .ok (s', q') ∧ p' ≤ n ∧ skp T n p' = skp T n q' ∧ r = some (.int (iI 1)) ∧ o' 5 = (p' : Int) ∧ PD s' o' A') ∨ (∃ q' : Nat, P = .error q' ∧ r = some (.int (iI 0)) ∧ o' 6 = (q' : Int)))
def stpP (s : PT) (k : Int) (P : PR (Int × Int)) : PR PT := match P with
  | .error r => .error r
  | .ok (a, r) => .ok ((s.step k a.1 a.2), r)
theorem InvT.W {b : Nat} {s : PT} (I : InvT b s) : ∀ i, i < s.op → 0 ≤ s.wt i ∧ s.wt i < s.od := fun i hi => by
  have := I.wtb i hi
  omega
theorem rr_step {d p b : Nat} {c : Int} {s : PT} (S : okS T n) (w : FW h0 h o F A) (t : RT T n o A) (e5 : o 5 = (p : Int)) (hp : p ≤ n) (P : PD s o A) (I : InvT b s) (hs : s.st < 12) (hb : b ≤ 120) (hc : c = 76 ∨ c = 66 ∨ c = 74 ∨ c = 83 ∨ c = 87) : am_c X (d + 3) 162 [.ref 164, .int (iI c)] h (rpQ h0 o F A T n (stpP s (kindB c) (pargs T n (kindB c) p))) := by
  have cO := w.cO
  have W := I.W
  have od : s.od < 150 := by have := I.num; omega
  have bad : ∀ {o2 : Nat → Int} {h2 : am_H} {r : Nat}, pargs T n (kindB c) p = .error r → FW h0 h2 o2 F A → (∀ j, j ≠ 5 → j ≠ 6 → j ≠ 14 → o2 j = o j) → o2 6 = (r : Int) → rpQ h0 o F A T n (stpP s (kindB c) (pargs T n (kindB c) p)) (some (.int (iI 0))) h2 := by
    intro o2 h2 r hP w k e6
    rw [hP]
    exact ⟨o2, A, w, fun j x y z u v => k j x y u, kpA.rf, Or.inr ⟨r, rfl, rfl, e6⟩⟩
  have good : ∀ {o2 : Nat → Int} {h2 : am_H} {r : Nat} {a : Int × Int} {A2 : Nat → Nat → Int} {o3 : Nat → Int}, pargs T n (kindB c) p = .ok (a, r) → FW h0 h2 o3 F A2 → (∀ j, j ≠ 5 → j ≠ 6 → j ≠ 14 → o2 j = o j) → (∀ j, j ≠ 13 → o3 j = o2 j) → kpA A A2 → r ≤ n → o2 5 = (r : Int) → PD (s.step (kindB c) a.1 a.2) o3 A2 → rpQ h0 o F A T n (stpP s (kindB c) (pargs T n (kindB c) p)) (some (.int (iI 1))) h2 := by
    intro o2 h2 r a A2 o3 hP w k k2 kA hr e P3
    rw [hP]
    exact ⟨o3, A2, w, fun j x y z u v => by rw [k2 j z, k j x y u], kA, Or.inl ⟨_, r, r, rfl, hr, rfl, rfl, by rw [k2 5 (by decide), e], P3⟩⟩
  refine am_c.of (Nat.le_of_ble_eq_true rfl) ?_
  show am_w _ _ _ (_, [_, _, _], _, _) _
  rcases hc with rfl | rfl | rfl | rfl | rfl
  · have ek : kindB 76 = 1 := by decide
    rw [ek] at bad good ⊢
    refine wr_iconst rfl rfl ?_
    refine wr_istore_n (ls' := [_, _, _]) rfl rfl (Nat.le_of_ble_eq_true rfl) rfl ?_
    refine wr_iload_n rfl rfl rfl ?_
    refine wr_bipush rfl rfl (by decide) ?_
    refine wr_icmp_ne rfl rfl rfl (by omega) (by omega) (fun c5 => ?_) (fun c5 => by exfalso; omega)
    refine wr_aload_n rfl rfl rfl ?_
    refine wr_iconst rfl rfl ?_
    refine wr_iload_n rfl rfl rfl ?_
    refine wr_bipush rfl rfl (by decide) ?_
    refine wr_icmp_eq rfl rfl rfl (by omega) (by omega) (fun c22 => by exfalso; omega) (fun c22 => ?_)
    refine wr_iconst rfl rfl ?_
    refine wr_goto rfl rfl ?_
    refine wr_cv2 (k' := 159) (ci := 12) rfl rfl rfl rfl (by assumption) rfl rfl (rr_num (mb := 0) (mz := 1) S w t e5 hp (Or.inl rfl) (Or.inr rfl)) (fun r h2 q => ?_)
    rw [if_neg (by decide), if_pos rfl] at q
    obtain ⟨o2, w, n2, ⟨v, q', hP, hq', rfl, s5, s14⟩ | ⟨q', hP, rfl, s6⟩⟩ := q
    · have cO := w.cO
      have t2 := t.keep (n2 4 (by decide) (by decide) (by decide)) (rfl : A 168 = A 168)
      refine wr_if_ne rfl rfl rfl (by omega) (fun c33 => ?_) (fun c33 => by exfalso; omega)
      refine wr_aload_n rfl rfl rfl ?_
      refine wr_get (ci := 12) (f := 14) rfl rfl rfl (by assumption) rfl ?_
      rw [s14]
      refine wr_istore_n (ls' := [_, _, _]) rfl rfl (Nat.le_of_ble_eq_true rfl) rfl ?_
      refine wr_iload_n rfl rfl rfl ?_
      refine wr_bipush rfl rfl (by decide) ?_
      refine wr_icmp_ne rfl rfl rfl (by omega) (by omega) (fun c46 => ?_) (fun c46 => by exfalso; omega)
      refine wr_iload_n rfl rfl rfl ?_
      refine wr_bipush rfl rfl (by decide) ?_
      refine wr_icmp_ne rfl rfl rfl (by omega) (by omega) (fun c61 => ?_) (fun c61 => by exfalso; omega)
      refine wr_aload_n rfl rfl rfl ?_
      refine wr_iconst rfl rfl ?_
      refine wr_iconst rfl rfl ?_
      refine wr_cv2 (k' := 159) (ci := 12) rfl rfl rfl rfl (by assumption) rfl rfl (rr_num (mb := 1) (mz := 1) S w t2 s5 hq' (Or.inr ⟨rfl, rfl⟩) (Or.inr rfl)) (fun r h2 q => ?_)
      rw [if_pos rfl] at q
      obtain ⟨o3, w, n3, ⟨v2, q2, hP2, hq2, rfl, s5', s14'⟩ | ⟨q2, hP2, rfl, s6⟩⟩ := q
      · have cO := w.cO
        refine wr_if_ne rfl rfl rfl (by omega) (fun c102 => ?_) (fun c102 => by exfalso; omega)
        refine wr_aload_n rfl rfl rfl ?_
        refine wr_iload_n rfl rfl rfl ?_
        refine wr_bipush rfl rfl (by decide) ?_
        refine wr_icmp_ne rfl rfl rfl (by omega) (by omega) (fun c111 => by exfalso; omega) (fun c111 => ?_)
        refine wr_iconst rfl rfl ?_
        refine wr_goto rfl rfl ?_
        refine wr_iload_n rfl rfl rfl ?_
        refine wr_aload_n rfl rfl rfl ?_
        refine wr_get (ci := 12) (f := 14) rfl rfl rfl (by assumption) rfl ?_
        rw [s14']
        refine wr_cv3 (k' := 161) (ci := 12) rfl rfl rfl rfl (by assumption) rfl rfl (rr_rowS (s := s) (k := 1) (f := v) (e := v2) w (P.keep (by rw [n3 13 (by decide) (by decide) (by decide), n2 13 (by decide) (by decide) (by decide)]) (by rw [n3 16 (by decide) (by decide) (by decide), n2 16 (by decide) (by decide) (by decide)])) od (by decide) W) (fun r h2 q => ?_)
        obtain ⟨rfl, o4, A4, w, n4, kA, P4⟩ := q
        refine wr_iconst rfl rfl ?_
        refine wr_zret rfl rfl (by decide) ?_
        exact good (a := (v, v2)) (by simp [pargs, hP, hP2]) w (fun j x y z => by rw [n3 j x y z, n2 j x y z]) n4 kA hq2 s5' P4
      ·
        refine wr_if_ne rfl rfl rfl (by omega) (fun c102 => by exfalso; omega) (fun c102 => ?_)
        refine wr_iconst rfl rfl ?_
        refine wr_zret rfl rfl (by decide) ?_
        exact bad (by simp [pargs, hP, hP2]) w (fun j x y z => by rw [n3 j x y z, n2 j x y z]) s6
    ·
      refine wr_if_ne rfl rfl rfl (by omega) (fun c33 => by exfalso; omega) (fun c33 => ?_)
      refine wr_iconst rfl rfl ?_
      refine wr_zret rfl rfl (by decide) ?_
      exact bad (by simp [pargs, hP]) w n2 s6
  · have ek : kindB 66 = 2 := by decide
    rw [ek] at bad good ⊢
    refine wr_iconst rfl rfl ?_
    refine wr_istore_n (ls' := [_, _, _]) rfl rfl (Nat.le_of_ble_eq_true rfl) rfl ?_
    refine wr_iload_n rfl rfl rfl ?_
    refine wr_bipush rfl rfl (by decide) ?_
    refine wr_icmp_ne rfl rfl rfl (by omega) (by omega) (fun c5 => ?_) (fun c5 => by exfalso; omega)
    refine wr_aload_n rfl rfl rfl ?_
    refine wr_iconst rfl rfl ?_
    refine wr_iload_n rfl rfl rfl ?_
    refine wr_bipush rfl rfl (by decide) ?_
    refine wr_icmp_eq rfl rfl rfl (by omega) (by omega) (fun c22 => by exfalso; omega) (fun c22 => ?_)
    refine wr_iconst rfl rfl ?_
    refine wr_goto rfl rfl ?_
    refine wr_cv2 (k' := 159) (ci := 12) rfl rfl rfl rfl (by assumption) rfl rfl (rr_num (mb := 0) (mz := 1) S w t e5 hp (Or.inl rfl) (Or.inr rfl)) (fun r h2 q => ?_)
    rw [if_neg (by decide), if_pos rfl] at q
    obtain ⟨o2, w, n2, ⟨v, q', hP, hq', rfl, s5, s14⟩ | ⟨q', hP, rfl, s6⟩⟩ := q
    · have cO := w.cO
      refine wr_if_ne rfl rfl rfl (by omega) (fun c33 => ?_) (fun c33 => by exfalso; omega)
      refine wr_aload_n rfl rfl rfl ?_
      refine wr_get (ci := 12) (f := 14) rfl rfl rfl (by assumption) rfl ?_
      rw [s14]
      refine wr_istore_n (ls' := [_, _, _]) rfl rfl (Nat.le_of_ble_eq_true rfl) rfl ?_
      refine wr_iload_n rfl rfl rfl ?_
      refine wr_bipush rfl rfl (by decide) ?_
      refine wr_icmp_ne rfl rfl rfl (by omega) (by omega) (fun c46 => by exfalso; omega) (fun c46 => ?_)
      refine wr_aload_n rfl rfl rfl ?_
      refine wr_iconst rfl rfl ?_
      refine wr_iload_n rfl rfl rfl ?_
      refine wr_iconst rfl rfl ?_
      refine wr_cv3 (k' := 161) (ci := 12) rfl rfl rfl rfl (by assumption) rfl rfl (rr_rowS (s := s) (k := 2) (f := v) (e := 0) w (P.keep (n2 13 (by decide) (by decide) (by decide)) (n2 16 (by decide) (by decide) (by decide))) od (by decide) W) (fun r h2 q => ?_)
      obtain ⟨rfl, o4, A4, w, n4, kA, P4⟩ := q
      refine wr_iconst rfl rfl ?_
      refine wr_zret rfl rfl (by decide) ?_
      exact good (a := (v, 0)) (by simp [pargs, hP]) w n2 n4 kA hq' s5 P4
    ·
      refine wr_if_ne rfl rfl rfl (by omega) (fun c33 => by exfalso; omega) (fun c33 => ?_)
      refine wr_iconst rfl rfl ?_
      refine wr_zret rfl rfl (by decide) ?_
      exact bad (by simp [pargs, hP]) w n2 s6
  · have ek : kindB 74 = 3 := by decide
    rw [ek] at bad good ⊢
    refine wr_iconst rfl rfl ?_
    refine wr_istore_n (ls' := [_, _, _]) rfl rfl (Nat.le_of_ble_eq_true rfl) rfl ?_
    refine wr_iload_n rfl rfl rfl ?_
    refine wr_bipush rfl rfl (by decide) ?_
    refine wr_icmp_ne rfl rfl rfl (by omega) (by omega) (fun c5 => ?_) (fun c5 => by exfalso; omega)
    refine wr_aload_n rfl rfl rfl ?_
    refine wr_iconst rfl rfl ?_
    refine wr_iload_n rfl rfl rfl ?_
    refine wr_bipush rfl rfl (by decide) ?_
    refine wr_icmp_eq rfl rfl rfl (by omega) (by omega) (fun c22 => by exfalso; omega) (fun c22 => ?_)
    refine wr_iconst rfl rfl ?_
    refine wr_goto rfl rfl ?_
    refine wr_cv2 (k' := 159) (ci := 12) rfl rfl rfl rfl (by assumption) rfl rfl (rr_num (mb := 0) (mz := 1) S w t e5 hp (Or.inl rfl) (Or.inr rfl)) (fun r h2 q => ?_)
    rw [if_neg (by decide), if_pos rfl] at q
    obtain ⟨o2, w, n2, ⟨v, q', hP, hq', rfl, s5, s14⟩ | ⟨q', hP, rfl, s6⟩⟩ := q
    · have cO := w.cO
      have t2 := t.keep (n2 4 (by decide) (by decide) (by decide)) (rfl : A 168 = A 168)
      refine wr_if_ne rfl rfl rfl (by omega) (fun c33 => ?_) (fun c33 => by exfalso; omega)
      refine wr_aload_n rfl rfl rfl ?_
      refine wr_get (ci := 12) (f := 14) rfl rfl rfl (by assumption) rfl ?_
      rw [s14]
      refine wr_istore_n (ls' := [_, _, _]) rfl rfl (Nat.le_of_ble_eq_true rfl) rfl ?_
      refine wr_iload_n rfl rfl rfl ?_
      refine wr_bipush rfl rfl (by decide) ?_
      refine wr_icmp_ne rfl rfl rfl (by omega) (by omega) (fun c46 => ?_) (fun c46 => by exfalso; omega)
      refine wr_iload_n rfl rfl rfl ?_
      refine wr_bipush rfl rfl (by decide) ?_
      refine wr_icmp_ne rfl rfl rfl (by omega) (by omega) (fun c61 => ?_) (fun c61 => by exfalso; omega)
      refine wr_aload_n rfl rfl rfl ?_
      refine wr_iconst rfl rfl ?_
      refine wr_iconst rfl rfl ?_
      refine wr_cv2 (k' := 159) (ci := 12) rfl rfl rfl rfl (by assumption) rfl rfl (rr_num (mb := 1) (mz := 1) S w t2 s5 hq' (Or.inr ⟨rfl, rfl⟩) (Or.inr rfl)) (fun r h2 q => ?_)
      rw [if_pos rfl] at q
      obtain ⟨o3, w, n3, ⟨v2, q2, hP2, hq2, rfl, s5', s14'⟩ | ⟨q2, hP2, rfl, s6⟩⟩ := q
      · have cO := w.cO
        refine wr_if_ne rfl rfl rfl (by omega) (fun c102 => ?_) (fun c102 => by exfalso; omega)
        refine wr_aload_n rfl rfl rfl ?_
        refine wr_iload_n rfl rfl rfl ?_
        refine wr_bipush rfl rfl (by decide) ?_
        refine wr_icmp_ne rfl rfl rfl (by omega) (by omega) (fun c111 => ?_) (fun c111 => by exfalso; omega)
        refine wr_iconst rfl rfl ?_
        refine wr_iload_n rfl rfl rfl ?_
        refine wr_aload_n rfl rfl rfl ?_
        refine wr_get (ci := 12) (f := 14) rfl rfl rfl (by assumption) rfl ?_
        rw [s14']
        refine wr_cv3 (k' := 161) (ci := 12) rfl rfl rfl rfl (by assumption) rfl rfl (rr_rowS (s := s) (k := 3) (f := v) (e := v2) w (P.keep (by rw [n3 13 (by decide) (by decide) (by decide), n2 13 (by decide) (by decide) (by decide)]) (by rw [n3 16 (by decide) (by decide) (by decide), n2 16 (by decide) (by decide) (by decide)])) od (by decide) W) (fun r h2 q => ?_)
        obtain ⟨rfl, o4, A4, w, n4, kA, P4⟩ := q
        refine wr_iconst rfl rfl ?_
        refine wr_zret rfl rfl (by decide) ?_
        exact good (a := (v, v2)) (by simp [pargs, hP, hP2]) w (fun j x y z => by rw [n3 j x y z, n2 j x y z]) n4 kA hq2 s5' P4
      ·
        refine wr_if_ne rfl rfl rfl (by omega) (fun c102 => by exfalso; omega) (fun c102 => ?_)
        refine wr_iconst rfl rfl ?_
        refine wr_zret rfl rfl (by decide) ?_
        exact bad (by simp [pargs, hP, hP2]) w (fun j x y z => by rw [n3 j x y z, n2 j x y z]) s6
    ·
      refine wr_if_ne rfl rfl rfl (by omega) (fun c33 => by exfalso; omega) (fun c33 => ?_)
      refine wr_iconst rfl rfl ?_
      refine wr_zret rfl rfl (by decide) ?_
      exact bad (by simp [pargs, hP]) w n2 s6
  · have ek : kindB 83 = 4 := by decide
    rw [ek] at bad good ⊢
    refine wr_iconst rfl rfl ?_
    refine wr_istore_n (ls' := [_, _, _]) rfl rfl (Nat.le_of_ble_eq_true rfl) rfl ?_
    refine wr_iload_n rfl rfl rfl ?_
    refine wr_bipush rfl rfl (by decide) ?_
    refine wr_icmp_ne rfl rfl rfl (by omega) (by omega) (fun c5 => ?_) (fun c5 => by exfalso; omega)
    refine wr_aload_n rfl rfl rfl ?_
    refine wr_iconst rfl rfl ?_
    refine wr_iload_n rfl rfl rfl ?_
    refine wr_bipush rfl rfl (by decide) ?_
    refine wr_icmp_eq rfl rfl rfl (by omega) (by omega) (fun c22 => ?_) (fun c22 => by exfalso; omega)
    refine wr_iconst rfl rfl ?_
    refine wr_cv2 (k' := 159) (ci := 12) rfl rfl rfl rfl (by assumption) rfl rfl (rr_num (mb := 0) (mz := 0) S w t e5 hp (Or.inl rfl) (Or.inl rfl)) (fun r h2 q => ?_)
    rw [if_neg (by decide), if_neg (by decide)] at q
    obtain ⟨o2, w, n2, ⟨v, q', hP, hq', rfl, s5, s14⟩ | ⟨q', hP, rfl, s6⟩⟩ := q
    · have cO := w.cO
      have t2 := t.keep (n2 4 (by decide) (by decide) (by decide)) (rfl : A 168 = A 168)
      refine wr_if_ne rfl rfl rfl (by omega) (fun c33 => ?_) (fun c33 => by exfalso; omega)
      refine wr_aload_n rfl rfl rfl ?_
      refine wr_get (ci := 12) (f := 14) rfl rfl rfl (by assumption) rfl ?_
      rw [s14]
      refine wr_istore_n (ls' := [_, _, _]) rfl rfl (Nat.le_of_ble_eq_true rfl) rfl ?_
      refine wr_iload_n rfl rfl rfl ?_
      refine wr_bipush rfl rfl (by decide) ?_
      refine wr_icmp_ne rfl rfl rfl (by omega) (by omega) (fun c46 => ?_) (fun c46 => by exfalso; omega)
      refine wr_iload_n rfl rfl rfl ?_
      refine wr_bipush rfl rfl (by decide) ?_
      refine wr_icmp_ne rfl rfl rfl (by omega) (by omega) (fun c61 => by exfalso; omega) (fun c61 => ?_)
      refine wr_aload_n rfl rfl rfl ?_
      refine wr_bipush rfl rfl (by decide) ?_
      refine wr_cv1 (k' := 156) (ci := 12) rfl rfl rfl rfl (by assumption) rfl rfl (rr_eat S w t2 s5 hq' (show (1 : Int) ≤ 47 ∧ (47 : Int) ≤ 126 by decide)) (fun r h2 q => ?_)
      obtain ⟨o3, w, n3, ⟨q2, hP2, rfl, s5'⟩ | ⟨q2, hP2, rfl, s6⟩⟩ := q
      · have cO := w.cO
        have bq := pexp_ok hq' (by decide) hP2
        have t3 := t2.keep (n3 4 (by decide) (by decide)) (rfl : A 168 = A 168)
        refine wr_if_eq rfl rfl rfl (by omega) (fun c70 => by exfalso; omega) (fun c70 => ?_)
        refine wr_aload_n rfl rfl rfl ?_
        refine wr_iconst rfl rfl ?_
        refine wr_iconst rfl rfl ?_
        refine wr_cv2 (k' := 159) (ci := 12) rfl rfl rfl rfl (by assumption) rfl rfl (rr_num (mb := 0) (mz := 0) S w t3 s5' bq.2 (Or.inl rfl) (Or.inl rfl)) (fun r h2 q => ?_)
        rw [if_neg (by decide), if_neg (by decide)] at q
        obtain ⟨o4, w, n4, ⟨v3, q3, hP3, hq3, rfl, s5'', s14'⟩ | ⟨q3, hP3, rfl, s6⟩⟩ := q
        · have cO := w.cO
          refine wr_if_ne rfl rfl rfl (by omega) (fun c79 => ?_) (fun c79 => by exfalso; omega)
          refine wr_aload_n rfl rfl rfl ?_
          refine wr_iconst rfl rfl ?_
          refine wr_iload_n rfl rfl rfl ?_
          refine wr_aload_n rfl rfl rfl ?_
          refine wr_get (ci := 12) (f := 14) rfl rfl rfl (by assumption) rfl ?_
          rw [s14']
          refine wr_cv3 (k' := 161) (ci := 12) rfl rfl rfl rfl (by assumption) rfl rfl (rr_rowS (s := s) (k := 4) (f := v) (e := v3) w (P.keep (by rw [n4 13 (by decide) (by decide) (by decide), n3 13 (by decide) (by decide), n2 13 (by decide) (by decide) (by decide)]) (by rw [n4 16 (by decide) (by decide) (by decide), n3 16 (by decide) (by decide), n2 16 (by decide) (by decide) (by decide)])) od (by decide) W) (fun r h2 q => ?_)
          obtain ⟨rfl, o5, A5, w, n5, kA, P5⟩ := q
          refine wr_iconst rfl rfl ?_
          refine wr_zret rfl rfl (by decide) ?_
          exact good (a := (v, v3)) (by simp [pargs, hP, hP2, hP3]) w (fun j x y z => by rw [n4 j x y z, n3 j x y, n2 j x y z]) n5 kA hq3 s5'' P5
        ·
          refine wr_if_ne rfl rfl rfl (by omega) (fun c79 => by exfalso; omega) (fun c79 => ?_)
          refine wr_iconst rfl rfl ?_
          refine wr_zret rfl rfl (by decide) ?_
          exact bad (by simp [pargs, hP, hP2, hP3]) w (fun j x y z => by rw [n4 j x y z, n3 j x y, n2 j x y z]) s6
      ·
        refine wr_if_eq rfl rfl rfl (by omega) (fun c70 => ?_) (fun c70 => by exfalso; omega)
        refine wr_iconst rfl rfl ?_
        refine wr_zret rfl rfl (by decide) ?_
        exact bad (by simp [pargs, hP, hP2]) w (fun j x y z => by rw [n3 j x y, n2 j x y z]) s6
    ·
      refine wr_if_ne rfl rfl rfl (by omega) (fun c33 => by exfalso; omega) (fun c33 => ?_)
      refine wr_iconst rfl rfl ?_
      refine wr_zret rfl rfl (by decide) ?_
      exact bad (by simp [pargs, hP]) w n2 s6
  · have ek : kindB 87 = 5 := by decide
    rw [ek] at bad good ⊢
    refine wr_iconst rfl rfl ?_
    refine wr_istore_n (ls' := [_, _, _]) rfl rfl (Nat.le_of_ble_eq_true rfl) rfl ?_
    refine wr_iload_n rfl rfl rfl ?_
    refine wr_bipush rfl rfl (by decide) ?_
    refine wr_icmp_ne rfl rfl rfl (by omega) (by omega) (fun c5 => by exfalso; omega) (fun c5 => ?_)
    refine wr_aload_n rfl rfl rfl ?_
    refine wr_iconst rfl rfl ?_
    refine wr_iconst rfl rfl ?_
    refine wr_iconst rfl rfl ?_
    refine wr_cv3 (k' := 161) (ci := 12) rfl rfl rfl rfl (by assumption) rfl rfl (rr_rowS (s := s) (k := 5) (f := 0) (e := 0) w P od (by decide) W) (fun r h2 q => ?_)
    obtain ⟨rfl, o4, A4, w, n4, kA, P4⟩ := q
    refine wr_iconst rfl rfl ?_
    refine wr_zret rfl rfl (by decide) ?_
    exact good (a := (0, 0)) (by simp [pargs]) w (fun _ _ _ _ => rfl) n4 kA hp e5 P4
/-- a question behind its condition and its far -/
def askP (T : Nat → Int) (n : Nat) (s : PT) (k f : Int) (q : Nat) : PR PT := match popn T n s.op q with
  | .error r => .error r
  | .ok (_, r) => .ok (((s.step k f 0).push s.od), r)
theorem rr_ask1 {d p b : Nat} {c f : Int} {s : PT} (S : okS T n) (w : FW h0 h o F A) (t : RT T n o A) (e5 : o 5 = (p : Int)) (hp : p ≤ n) (P : PD s o A) (I : InvT b s) (hs : s.st < 12) (hb : b ≤ 120) (hc : c = 99 ∨ c = 102 ∨ c = 111 ∨ c = 104) : am_w X (d + 3) 158 (81, [.ref 164, .int (iI c), .int (iI f)], [], h) (rpQ h0 o F A T n (askP T n s (condB c) f p)) := by
  have cO := w.cO
  have W := I.W
  have op5 := I.op5
  have od : s.od < 150 := by have := I.num; omega
  refine wr_aload_n rfl rfl rfl ?_
  refine wr_cv0 (k' := 160) (ci := 12) rfl rfl rfl rfl (by assumption) rfl rfl (rr_open S w t e5 hp P.1.2 op5) (fun r h2 q => ?_)
  unfold askP
  obtain ⟨o2, w, n2, ⟨q', hP, rfl, s5⟩ | ⟨q', hP, rfl, s6⟩⟩ := q
  · have cO := w.cO
    have cA := w.arr (p := 174) (n := 8) (by decide) (by decide)
    have bo := popn_ok hp hP
    have x13 : o2 13 = (s.od : Int) := by rw [n2 13 (by decide) (by decide)]; exact P.1.1
    have x16 : o2 16 = (s.op : Int) := by rw [n2 16 (by decide) (by decide)]; exact P.1.2
    rw [hP]
    refine wr_if_ne rfl rfl rfl (by omega) (fun c85 => ?_) (fun c85 => by exfalso; omega)
    refine wr_aload_n rfl rfl rfl ?_
    refine wr_get (ci := 12) (f := 15) rfl rfl rfl (by assumption) rfl ?_
    refine wr_aload_n rfl rfl rfl ?_
    refine wr_get (ci := 12) (f := 16) rfl rfl rfl (by assumption) rfl ?_
    rw [x16]
    refine wr_aload_n rfl rfl rfl ?_
    refine wr_get (ci := 12) (f := 13) rfl rfl rfl (by assumption) rfl ?_
    rw [x13]
    refine wr_iast rfl rfl (by assumption) (by omega) (by omega) (fun h1 e1 => ?_)
    rw [Int.toNat_natCast] at e1
    have w := e1 ▸ (w.setA (p := 174) (n := 8) (by decide) (by decide) (updI (A 174) (s.op) (s.od))).2
    clear e1
    obtain ⟨A2, w, sA, nA⟩ := fa_ex w
    have cO := w.cO
    refine wr_aload_n rfl rfl rfl ?_
    refine wr_dup rfl rfl ?_
    refine wr_get (ci := 12) (f := 16) rfl rfl rfl (by assumption) rfl ?_
    rw [x16]
    refine wr_iconst rfl rfl ?_
    refine wr_iadd rfl rfl ?_
    refine wr_putI (ci := 12) (f := 16) (fs' := [_, _, _, _, _, _, _, _, _, _, _, _, _, _, _, _, _, _, _, _, _, _, _, _, _, _, _, _, _, _, _, _, _, _, _, _, _, _, _]) rfl rfl rfl (by assumption) rfl rfl rfl (fun h1 e1 => ?_)
    have w : FW h0 h1 (updI o2 16 ((s.op:Int)+1)) F A2 := by rw [e1]; exact w.setO (updI o2 16 ((s.op:Int)+1))
    clear e1
    obtain ⟨o3, w, s3, n3⟩ := fo_ex w
    have cO := w.cO
    refine wr_aload_n rfl rfl rfl ?_
    refine wr_bipush rfl rfl (by decide) ?_
    refine wr_iload_n rfl rfl rfl ?_
    refine wr_iload_n rfl rfl rfl ?_
    refine wr_cv3 (k' := 161) (ci := 12) rfl rfl rfl rfl (by assumption) rfl rfl (rr_row (r := s.od) (a := 6) (b := c) (c := f) w (by rw [n3 13 (by decide), x13]) od) (fun r h2 q => ?_)
    obtain ⟨rfl, o4, A4, w, n4, r4⟩ := q
    refine wr_iconst rfl rfl ?_
    refine wr_zret rfl rfl (by decide) ?_
    refine ⟨o4, A4, w, fun j x y z u v => by rw [n4.2 j z, n3 j v, n2 j x y], (kpA.opn sA nA).tr r4.kp, Or.inl ⟨_, q', q', rfl, bo.2.1, rfl, rfl, by rw [n4.2 5 (by decide), n3 5 (by decide), s5], ?_⟩⟩
    have kc := condB_cases c
    refine P.ask sA nA r4 (by rw [n4.1, n3 13 (by decide), n2 13 (by decide) (by decide)]) (by rw [n4.2 16 (by decide), s3, P.1.2]) (by omega) ?_ W
    rcases hc with rfl | rfl | rfl | rfl <;> decide
  ·
    rw [hP]
    refine wr_if_ne rfl rfl rfl (by omega) (fun c85 => by exfalso; omega) (fun c85 => ?_)
    refine wr_iconst rfl rfl ?_
    refine wr_zret rfl rfl (by decide) ?_
    exact ⟨o2, A, w, fun j x y z u v => n2 j x y, kpA.rf, Or.inr ⟨q', rfl, rfl, s6⟩⟩
theorem rpQ.of {P P' : PR PT} {r : Option Value} (q : rpQ h0 o' F A' T n P r h) (k : kpO o o') (kA : kpA A A') (e : P = P') : rpQ h0 o F A T n P' r h := by
  subst e
  obtain ⟨o2, A2, w, n2, m2, c⟩ := q
  exact ⟨o2, A2, w, k.tr n2, kA.tr m2, c⟩
theorem rr_ask {d p b : Nat} {s : PT} (S : okS T n) (w : FW h0 h o F A) (t : RT T n o A) (e5 : o 5 = (p : Int)) (hp : p ≤ n) (P : PD s o A) (I : InvT b s) (hs : s.st < 12) (hb : b ≤ 120) : am_c X (d + 4) 158 [.ref 164] h (rpQ h0 o F A T n (pchoice T n s p)) := by
  have cO := w.cO
  have sb := sgA_IN S (skp T n p)
  have kb := (skp_spec T n p).2.1 hp
  have n4 := S.1
  refine am_c.of (Nat.le_of_ble_eq_true rfl) ?_
  show am_w _ _ _ (_, [_, _, _], _, _) _
  refine wr_aload_n rfl rfl rfl ?_
  refine wr_cv0 (k' := 155) (ci := 12) rfl rfl rfl rfl (by assumption) rfl rfl (rr_nextC S w t e5 hp) (fun r h2 q => ?_)
  obtain ⟨rfl, o2, w, s2, n2⟩ := q
  have t2 := t.keep (n2 4 (by decide)) (rfl : A 168 = A 168)
  have P2 := P.keep (n2 13 (by decide)) (n2 16 (by decide))
  have cO := w.cO
  unfold pchoice
  obtain ⟨q, es⟩ : ∃ q, q = skp T n p := ⟨_, rfl⟩
  rw [← es] at s2 sb kb ⊢
  obtain ⟨c, ec⟩ : ∃ c, c = sgA T n 0 q := ⟨_, rfl⟩
  rw [← ec] at sb ⊢
  have kc := condB_cases c
  by_cases hc : c = 99 ∨ c = 102 ∨ c = 111 ∨ c = 104
  · have qn : q < n := sb.2.2.1 (by omega)
    rw [if_neg (by omega)]
    have J : am_w X (d + 3) 158 (39, [.ref 164, .int (iI c), am_U], [], h2) (rpQ h0 o F A T n (match pfar T n (condB c) (q + 1) with
      | .error q => .error q
      | .ok (f, q) => match popn T n s.op q with
        | .error r => .error r
        | .ok (_, r) => .ok (((s.step (condB c) f 0).push s.od), r))) := by
      refine wr_aload_n rfl rfl rfl ?_
      refine wr_dup rfl rfl ?_
      refine wr_get (ci := 12) (f := 5) rfl rfl rfl (by assumption) rfl ?_
      rw [s2]
      refine wr_iconst rfl rfl ?_
      refine wr_iadd rfl rfl ?_
      refine wr_putI (ci := 12) (f := 5) (fs' := [_, _, _, _, _, _, _, _, _, _, _, _, _, _, _, _, _, _, _, _, _, _, _, _, _, _, _, _, _, _, _, _, _, _, _, _, _, _, _]) rfl rfl rfl (by assumption) rfl rfl rfl (fun h1 e1 => ?_)
      have w : FW h0 h1 (updI o2 5 ((q:Int)+1)) F A := by rw [e1]; exact w.setO (updI o2 5 ((q:Int)+1))
      clear e1
      obtain ⟨o3, w, s3, n3⟩ := fo_ex w
      have cO := w.cO
      have t3 := t2.keep (n3 4 (by decide)) (rfl : A 168 = A 168)
      have P3 := P2.keep (n3 13 (by decide)) (n3 16 (by decide))
      have e5 : o3 5 = ((q + 1 : Nat) : Int) := by rw [s3]; omega
      unfold pfar
      by_cases c4 : c = 104
      · have k9 : condB c = 9 := by omega
        rw [if_pos k9]
        refine wr_iload_n rfl rfl rfl ?_
        refine wr_bipush rfl rfl (by decide) ?_
        refine wr_icmp_ne rfl rfl rfl (by omega) (by omega) (fun c52 => by exfalso; omega) (fun c52 => ?_)
        refine wr_aload_n rfl rfl rfl ?_
        refine wr_iconst rfl rfl ?_
        refine wr_iconst rfl rfl ?_
        refine wr_cv2 (k' := 159) (ci := 12) rfl rfl rfl rfl (by assumption) rfl rfl (rr_num (mb := 0) (mz := 1) S w t3 e5 qn (Or.inl rfl) (Or.inr rfl)) (fun r h2 q => ?_)
        rw [if_neg (by decide), if_pos rfl] at q
        obtain ⟨o4, w, m4, ⟨v, q', hP, hq', rfl, s5, s14⟩ | ⟨q', hP, rfl, s6⟩⟩ := q
        · have cO := w.cO
          rw [hP]
          refine wr_if_ne rfl rfl rfl (by omega) (fun c61 => ?_) (fun c61 => by exfalso; omega)
          refine wr_iload_n rfl rfl rfl ?_
          refine wr_bipush rfl rfl (by decide) ?_
          refine wr_icmp_ne rfl rfl rfl (by omega) (by omega) (fun c69 => by exfalso; omega) (fun c69 => ?_)
          refine wr_aload_n rfl rfl rfl ?_
          refine wr_get (ci := 12) (f := 14) rfl rfl rfl (by assumption) rfl ?_
          rw [s14]
          refine wr_goto rfl rfl ?_
          refine wr_istore_n (ls' := [_, _, _]) rfl rfl (Nat.le_of_ble_eq_true rfl) rfl ?_
          refine (rr_ask1 S w (t3.keep (m4 4 (by decide) (by decide) (by decide)) rfl) s5 hq' (P3.keep (m4 13 (by decide) (by decide) (by decide)) (m4 16 (by decide) (by decide) (by decide))) I hs hb hc).mono (fun r h' k => k.of (fun j x y z u v => by rw [m4 j x y u, n3 j x, n2 j x]) kpA.rf rfl)
        ·
          rw [hP]
          refine wr_if_ne rfl rfl rfl (by omega) (fun c61 => by exfalso; omega) (fun c61 => ?_)
          refine wr_iconst rfl rfl ?_
          refine wr_zret rfl rfl (by decide) ?_
          exact ⟨o4, A, w, fun j x y z u v => by rw [m4 j x y u, n3 j x, n2 j x], kpA.rf, Or.inr ⟨q', rfl, rfl, s6⟩⟩
      ·
        rw [if_neg (by omega)]
        refine wr_iload_n rfl rfl rfl ?_
        refine wr_bipush rfl rfl (by decide) ?_
        refine wr_icmp_ne rfl rfl rfl (by omega) (by omega) (fun c52 => ?_) (fun c52 => by exfalso; omega)
        refine wr_iload_n rfl rfl rfl ?_
        refine wr_bipush rfl rfl (by decide) ?_
        refine wr_icmp_ne rfl rfl rfl (by omega) (by omega) (fun c69 => ?_) (fun c69 => by exfalso; omega)
        refine wr_iconst rfl rfl ?_
        refine wr_istore_n (ls' := [_, _, _]) rfl rfl (Nat.le_of_ble_eq_true rfl) rfl ?_
        refine (rr_ask1 (f := 0) S w t3 e5 qn P3 I hs hb hc).mono (fun r h' k => k.of (fun j x y z u v => by rw [n3 j x, n2 j x]) kpA.rf rfl)
    by_cases c1 : c = 99
    ·
      refine wr_istore_n (ls' := [_, _, _]) rfl rfl (Nat.le_of_ble_eq_true rfl) rfl ?_
      refine wr_iload_n rfl rfl rfl ?_
      refine wr_bipush rfl rfl (by decide) ?_
      refine wr_icmp_eq rfl rfl rfl (by omega) (by omega) (fun c8 => ?_) (fun c8 => by exfalso; omega)
      exact J
    by_cases c2 : c = 102
    ·
      refine wr_istore_n (ls' := [_, _, _]) rfl rfl (Nat.le_of_ble_eq_true rfl) rfl ?_
      refine wr_iload_n rfl rfl rfl ?_
      refine wr_bipush rfl rfl (by decide) ?_
      refine wr_icmp_eq rfl rfl rfl (by omega) (by omega) (fun c8 => by exfalso; omega) (fun c8 => ?_)
      refine wr_iload_n rfl rfl rfl ?_
      refine wr_bipush rfl rfl (by decide) ?_
      refine wr_icmp_eq rfl rfl rfl (by omega) (by omega) (fun c14 => ?_) (fun c14 => by exfalso; omega)
      exact J
    by_cases c3 : c = 111
    ·
      refine wr_istore_n (ls' := [_, _, _]) rfl rfl (Nat.le_of_ble_eq_true rfl) rfl ?_
      refine wr_iload_n rfl rfl rfl ?_
      refine wr_bipush rfl rfl (by decide) ?_
      refine wr_icmp_eq rfl rfl rfl (by omega) (by omega) (fun c8 => by exfalso; omega) (fun c8 => ?_)
      refine wr_iload_n rfl rfl rfl ?_
      refine wr_bipush rfl rfl (by decide) ?_
      refine wr_icmp_eq rfl rfl rfl (by omega) (by omega) (fun c14 => by exfalso; omega) (fun c14 => ?_)
      refine wr_iload_n rfl rfl rfl ?_
      refine wr_bipush rfl rfl (by decide) ?_
      refine wr_icmp_eq rfl rfl rfl (by omega) (by omega) (fun c20 => ?_) (fun c20 => by exfalso; omega)
      exact J
    ·
      refine wr_istore_n (ls' := [_, _, _]) rfl rfl (Nat.le_of_ble_eq_true rfl) rfl ?_
      refine wr_iload_n rfl rfl rfl ?_
      refine wr_bipush rfl rfl (by decide) ?_
      refine wr_icmp_eq rfl rfl rfl (by omega) (by omega) (fun c8 => by exfalso; omega) (fun c8 => ?_)
      refine wr_iload_n rfl rfl rfl ?_
      refine wr_bipush rfl rfl (by decide) ?_
      refine wr_icmp_eq rfl rfl rfl (by omega) (by omega) (fun c14 => by exfalso; omega) (fun c14 => ?_)
      refine wr_iload_n rfl rfl rfl ?_
      refine wr_bipush rfl rfl (by decide) ?_
      refine wr_icmp_eq rfl rfl rfl (by omega) (by omega) (fun c20 => by exfalso; omega) (fun c20 => ?_)
      refine wr_iload_n rfl rfl rfl ?_
      refine wr_bipush rfl rfl (by decide) ?_
      refine wr_icmp_eq rfl rfl rfl (by omega) (by omega) (fun c26 => ?_) (fun c26 => by exfalso; omega)
      exact J
  ·
    rw [if_pos (by omega)]
    refine wr_istore_n (ls' := [_, _, _]) rfl rfl (Nat.le_of_ble_eq_true rfl) rfl ?_
    refine wr_iload_n rfl rfl rfl ?_
    refine wr_bipush rfl rfl (by decide) ?_
    refine wr_icmp_eq rfl rfl rfl (by omega) (by omega) (fun c8 => by exfalso; omega) (fun c8 => ?_)
    refine wr_iload_n rfl rfl rfl ?_
    refine wr_bipush rfl rfl (by decide) ?_
    refine wr_icmp_eq rfl rfl rfl (by omega) (by omega) (fun c14 => by exfalso; omega) (fun c14 => ?_)
    refine wr_iload_n rfl rfl rfl ?_
    refine wr_bipush rfl rfl (by decide) ?_
    refine wr_icmp_eq rfl rfl rfl (by omega) (by omega) (fun c20 => by exfalso; omega) (fun c20 => ?_)
    refine wr_iload_n rfl rfl rfl ?_
    refine wr_bipush rfl rfl (by decide) ?_
    refine wr_icmp_eq rfl rfl rfl (by omega) (by omega) (fun c26 => by exfalso; omega) (fun c26 => ?_)
    refine wr_aload_n rfl rfl rfl ?_
    refine wr_aload_n rfl rfl rfl ?_
    refine wr_get (ci := 12) (f := 5) rfl rfl rfl (by assumption) rfl ?_
    rw [s2]
    refine wr_putI (ci := 12) (f := 6) (fs' := [_, _, _, _, _, _, _, _, _, _, _, _, _, _, _, _, _, _, _, _, _, _, _, _, _, _, _, _, _, _, _, _, _, _, _, _, _, _, _]) rfl rfl rfl (by assumption) rfl rfl rfl (fun h1 e1 => ?_)
    have w : FW h0 h1 (updI o2 6 (q)) F A := by rw [e1]; exact w.setO (updI o2 6 (q))
    clear e1
    obtain ⟨o3, w, s3, n3⟩ := fo_ex w
    have cO := w.cO
    refine wr_iconst rfl rfl ?_
    refine wr_zret rfl rfl (by decide) ?_
    exact ⟨o3, A, w, fun j x y z u v => by rw [n3 j y, n2 j x], kpA.rf, Or.inr ⟨q, rfl, rfl, s3⟩⟩
theorem rr_close {d p b : Nat} {s : PT} (S : okS T n) (w : FW h0 h o F A) (t : RT T n o A) (e5 : o 5 = (p : Int) + 1) (hp : p + 1 ≤ n) (P : PD s o A) (I : InvT b s) (ho : 0 < s.op) (hb : b ≤ 120) : am_c X (d + 4) 163 [.ref 164] h (rpQ h0 o F A T n (pclose T n s p)) := by
  have cO := w.cO
  have op5 := I.op5
  have sk := skp_spec T n (p + 1)
  have sb := sgA_IN S (skp T n (p + 1))
  have kb := sk.2.1 hp
  have n4 := S.1
  have W := I.wtb (s.op - 1) (by omega)
  have num := I.num
  have st12 := I.st12
  have oa : oaF s.kd s.wt s.op = oaF s.kd s.wt (s.op - 1) + if s.kd (s.wt (s.op - 1)).toNat = 10 then 0 else 1 := by
    rw [show s.op = (s.op - 1) + 1 by omega, oaF, show s.op - 1 + 1 - 1 = s.op - 1 by omega]
  obtain ⟨j0, hj⟩ : ∃ j0, j0 = (s.wt (s.op - 1)).toNat := ⟨_, rfl⟩
  have jd : j0 < s.od := by omega
  have wj : A 174 (s.op - 1) = (j0 : Int) := by rw [P.2.1 (s.op - 1) (by omega)]; omega
  have rX := P.2.2.1 j0 jd
  have x13 := P.1.1
  have x16 := P.1.2
  have od : s.od < 174 := by omega
  refine am_c.of (Nat.le_of_ble_eq_true rfl) ?_
  show am_w _ _ _ (_, [_, _], _, _) _
  refine wr_aload_n rfl rfl rfl ?_
  refine wr_dup rfl rfl ?_
  refine wr_get (ci := 12) (f := 16) rfl rfl rfl (by assumption) rfl ?_
  rw [x16]
  refine wr_iconst rfl rfl ?_
  refine wr_isub rfl rfl ?_
  refine wr_putI (ci := 12) (f := 16) (fs' := [_, _, _, _, _, _, _, _, _, _, _, _, _, _, _, _, _, _, _, _, _, _, _, _, _, _, _, _, _, _, _, _, _, _, _, _, _, _, _]) rfl rfl rfl (by assumption) rfl rfl rfl (fun h1 e1 => ?_)
  have w : FW h0 h1 (updI o 16 ((s.op:Int)-1)) F A := by rw [e1]; exact w.setO (updI o 16 ((s.op:Int)-1))
  clear e1
  obtain ⟨o2, w, s2, n2⟩ := fo_ex w
  have cO := w.cO
  have y16 : o2 16 = ((s.op - 1 : Nat) : Int) := by rw [s2]; omega
  have y13 : o2 13 = (s.od : Int) := by rw [n2 13 (by decide), x13]
  have t2 := t.keep (n2 4 (by decide)) (rfl : A 168 = A 168)
  have e5 : o2 5 = ((p + 1 : Nat) : Int) := by rw [n2 5 (by decide), e5]; omega
  have cA := w.arr (p := 174) (n := 8) (by decide) (by decide)
  have cB := w.arr (p := 169) (n := 300) (by decide) (by decide)
  have cC := w.arr (p := 172) (n := 300) (by decide) (by decide)
  have et : (150 + (j0 : Int)).toNat = 150 + j0 := by omega
  by_cases k10 : s.kd (s.wt (s.op - 1)).toNat = 10
  · have op7 : A 169 (150 + j0) = 7 := by
      rw [← hj] at k10
      rcases rX with x | x | x
      · omega
      · omega
      · exact x.2
    unfold pclose
    rw [if_pos (Or.inl k10)]
    refine wr_sipush rfl rfl (by decide) ?_
    refine wr_aload_n rfl rfl rfl ?_
    refine wr_get (ci := 12) (f := 15) rfl rfl rfl (by assumption) rfl ?_
    refine wr_aload_n rfl rfl rfl ?_
    refine wr_get (ci := 12) (f := 16) rfl rfl rfl (by assumption) rfl ?_
    rw [y16]
    refine wr_iald rfl rfl (by assumption) (by omega) (by omega) ?_
    rw [Int.toNat_natCast, wj]
    refine wr_iadd rfl rfl ?_
    refine wr_istore_n (ls' := [_, _]) rfl rfl (Nat.le_of_ble_eq_true rfl) rfl ?_
    refine wr_aload_n rfl rfl rfl ?_
    refine wr_get (ci := 12) (f := 7) rfl rfl rfl (by assumption) rfl ?_
    refine wr_iload_n rfl rfl rfl ?_
    refine wr_iald rfl rfl (by assumption) (by omega) (by omega) ?_
    rw [et]
    refine wr_bipush rfl rfl (by decide) ?_
    refine wr_icmp_ne rfl rfl rfl (by omega) (by omega) (fun c32 => ?_) (fun c32 => by exfalso; omega)
    refine wr_aload_n rfl rfl rfl ?_
    refine wr_get (ci := 12) (f := 7) rfl rfl rfl (by assumption) rfl ?_
    refine wr_iload_n rfl rfl rfl ?_
    refine wr_iald rfl rfl (by assumption) (by omega) (by omega) ?_
    rw [et]
    refine wr_bipush rfl rfl (by decide) ?_
    refine wr_icmp_ne rfl rfl rfl (by omega) (by omega) (fun c114 => ?_) (fun c114 => by exfalso; omega)
    refine wr_aload_n rfl rfl rfl ?_
    refine wr_get (ci := 12) (f := 10) rfl rfl rfl (by assumption) rfl ?_
    refine wr_iload_n rfl rfl rfl ?_
    refine wr_aload_n rfl rfl rfl ?_
    refine wr_get (ci := 12) (f := 13) rfl rfl rfl (by assumption) rfl ?_
    rw [y13]
    refine wr_iast rfl rfl (by assumption) (by omega) (by omega) (fun h1 e1 => ?_)
    rw [et] at e1
    have w := e1 ▸ (w.setA (p := 172) (n := 300) (by decide) (by decide) (updI (A 172) (150 + j0) (s.od))).2
    clear e1
    obtain ⟨A2, w, sA, nA⟩ := fa_ex w
    have cO := w.cO
    refine wr_iconst rfl rfl ?_
    refine wr_zret rfl rfl (by decide) ?_
    refine ⟨o2, A2, w, fun j x y z u v => n2 j v, kpA.goe sA nA, Or.inl ⟨_, skp T n (p + 1), p + 1, rfl, hp, (skp_idem _ _ _).symm, rfl, e5, ?_⟩⟩
    exact P.pop I ho (by rw [← hj]; exact sA) nA (by rw [if_pos k10]) (n2 13 (by decide)) (by rw [s2, x16])
  have op6 : A 169 (150 + j0) = 6 := by
    rw [← hj] at k10 W
    rcases rX with x | x | x
    · omega
    · exact x.2.1
    · omega
  rw [if_neg k10] at oa
  refine wr_sipush rfl rfl (by decide) ?_
  refine wr_aload_n rfl rfl rfl ?_
  refine wr_get (ci := 12) (f := 15) rfl rfl rfl (by assumption) rfl ?_
  refine wr_aload_n rfl rfl rfl ?_
  refine wr_get (ci := 12) (f := 16) rfl rfl rfl (by assumption) rfl ?_
  rw [y16]
  refine wr_iald rfl rfl (by assumption) (by omega) (by omega) ?_
  rw [Int.toNat_natCast, wj]
  refine wr_iadd rfl rfl ?_
  refine wr_istore_n (ls' := [_, _]) rfl rfl (Nat.le_of_ble_eq_true rfl) rfl ?_
  refine wr_aload_n rfl rfl rfl ?_
  refine wr_get (ci := 12) (f := 7) rfl rfl rfl (by assumption) rfl ?_
  refine wr_iload_n rfl rfl rfl ?_
  refine wr_iald rfl rfl (by assumption) (by omega) (by omega) ?_
  rw [et]
  refine wr_bipush rfl rfl (by decide) ?_
  refine wr_icmp_ne rfl rfl rfl (by omega) (by omega) (fun c32 => by exfalso; omega) (fun c32 => ?_)
  refine wr_aload_n rfl rfl rfl ?_
  refine wr_cv0 (k' := 155) (ci := 12) rfl rfl rfl rfl (by assumption) rfl rfl (rr_nextC S w t2 e5 hp) (fun r h2 q => ?_)
  obtain ⟨rfl, o3, w, s3, n3⟩ := q
  have cO := w.cO
  have t3 := t2.keep (n3 4 (by decide)) (rfl : A 168 = A 168)
  have y16 : o3 16 = ((s.op - 1 : Nat) : Int) := by rw [n3 16 (by decide), y16]
  have y13 : o3 13 = (s.od : Int) := by rw [n3 13 (by decide), y13]
  have cB := w.arr (p := 169) (n := 300) (by decide) (by decide)
  have cC := w.arr (p := 172) (n := 300) (by decide) (by decide)
  unfold pclose
  obtain ⟨q, es⟩ : ∃ q, q = skp T n (p + 1) := ⟨_, rfl⟩
  rw [← es] at s3 sb kb ⊢
  by_cases c : sgA T n 0 q = 58
  · have qn : q < n := sb.2.2.1 (by omega)
    rw [if_neg (by omega)]
    refine wr_bipush rfl rfl (by decide) ?_
    refine wr_icmp_ne rfl rfl rfl (by omega) (by omega) (fun c41 => by exfalso; omega) (fun c41 => ?_)
    refine wr_aload_n rfl rfl rfl ?_
    refine wr_dup rfl rfl ?_
    refine wr_get (ci := 12) (f := 5) rfl rfl rfl (by assumption) rfl ?_
    rw [s3]
    refine wr_iconst rfl rfl ?_
    refine wr_iadd rfl rfl ?_
    refine wr_putI (ci := 12) (f := 5) (fs' := [_, _, _, _, _, _, _, _, _, _, _, _, _, _, _, _, _, _, _, _, _, _, _, _, _, _, _, _, _, _, _, _, _, _, _, _, _, _, _]) rfl rfl rfl (by assumption) rfl rfl rfl (fun h1 e1 => ?_)
    have w : FW h0 h1 (updI o3 5 ((q:Int)+1)) F A := by rw [e1]; exact w.setO (updI o3 5 ((q:Int)+1))
    clear e1
    obtain ⟨o4, w, s4, n4'⟩ := fo_ex w
    have cO := w.cO
    have t4 := t3.keep (n4' 4 (by decide)) (rfl : A 168 = A 168)
    refine wr_aload_n rfl rfl rfl ?_
    refine wr_cv0 (k' := 160) (ci := 12) rfl rfl rfl rfl (by assumption) rfl rfl (rr_open (q := q + 1) (op := s.op - 1) S w t4 (by rw [s4]; omega) qn (by rw [n4' 16 (by decide), y16]) (by omega)) (fun r h2 q => ?_)
    obtain ⟨o5, w, n5, ⟨q', hP, rfl, s5⟩ | ⟨q', hP, rfl, s6⟩⟩ := q
    · have cO := w.cO
      have bo := popn_ok qn hP
      have cA := w.arr (p := 174) (n := 8) (by decide) (by decide)
      have z16 : o5 16 = ((s.op - 1 : Nat) : Int) := by rw [n5 16 (by decide) (by decide), n4' 16 (by decide), y16]
      have z13 : o5 13 = (s.od : Int) := by rw [n5 13 (by decide) (by decide), n4' 13 (by decide), y13]
      rw [hP]
      refine wr_if_ne rfl rfl rfl (by omega) (fun c58 => ?_) (fun c58 => by exfalso; omega)
      refine wr_aload_n rfl rfl rfl ?_
      refine wr_get (ci := 12) (f := 15) rfl rfl rfl (by assumption) rfl ?_
      refine wr_aload_n rfl rfl rfl ?_
      refine wr_get (ci := 12) (f := 16) rfl rfl rfl (by assumption) rfl ?_
      rw [z16]
      refine wr_aload_n rfl rfl rfl ?_
      refine wr_get (ci := 12) (f := 13) rfl rfl rfl (by assumption) rfl ?_
      rw [z13]
      refine wr_iast rfl rfl (by assumption) (by omega) (by omega) (fun h1 e1 => ?_)
      rw [Int.toNat_natCast] at e1
      have w := e1 ▸ (w.setA (p := 174) (n := 8) (by decide) (by decide) (updI (A 174) (s.op - 1) (s.od))).2
      clear e1
      obtain ⟨A2, w, sA, nA⟩ := fa_ex w
      have cO := w.cO
      refine wr_aload_n rfl rfl rfl ?_
      refine wr_dup rfl rfl ?_
      refine wr_get (ci := 12) (f := 16) rfl rfl rfl (by assumption) rfl ?_
      rw [z16]
      refine wr_iconst rfl rfl ?_
      refine wr_iadd rfl rfl ?_
      refine wr_putI (ci := 12) (f := 16) (fs' := [_, _, _, _, _, _, _, _, _, _, _, _, _, _, _, _, _, _, _, _, _, _, _, _, _, _, _, _, _, _, _, _, _, _, _, _, _, _, _]) rfl rfl rfl (by assumption) rfl rfl rfl (fun h1 e1 => ?_)
      have w : FW h0 h1 (updI o5 16 (((s.op-1:Nat):Int)+1)) F A2 := by rw [e1]; exact w.setO (updI o5 16 (((s.op-1:Nat):Int)+1))
      clear e1
      obtain ⟨o6, w, s6, n6⟩ := fo_ex w
      have cO := w.cO
      refine wr_aload_n rfl rfl rfl ?_
      refine wr_bipush rfl rfl (by decide) ?_
      refine wr_iconst rfl rfl ?_
      refine wr_iconst rfl rfl ?_
      refine wr_cv3 (k' := 161) (ci := 12) rfl rfl rfl rfl (by assumption) rfl rfl (rr_row (r := s.od) (a := 7) (b := 0) (c := 0) w (by rw [n6 13 (by decide), z13]) (by omega)) (fun r h2 q => ?_)
      obtain ⟨rfl, o7, A3, w, n7, r7⟩ := q
      have cO := w.cO
      have cC := w.arr (p := 172) (n := 300) (by decide) (by decide)
      have u13 : o7 13 = ((s.od + 1 : Nat) : Int) := by rw [n7.1, n6 13 (by decide), z13]; omega
      refine wr_aload_n rfl rfl rfl ?_
      refine wr_get (ci := 12) (f := 10) rfl rfl rfl (by assumption) rfl ?_
      refine wr_iload_n rfl rfl rfl ?_
      refine wr_aload_n rfl rfl rfl ?_
      refine wr_get (ci := 12) (f := 13) rfl rfl rfl (by assumption) rfl ?_
      rw [u13]
      refine wr_iast rfl rfl (by assumption) (by omega) (by omega) (fun h1 e1 => ?_)
      rw [et] at e1
      have w := e1 ▸ (w.setA (p := 172) (n := 300) (by decide) (by decide) (updI (A3 172) (150 + j0) (((s.od + 1 : Nat) : Int)))).2
      clear e1
      obtain ⟨A4, w, sB, nB⟩ := fa_ex w
      have cO := w.cO
      refine wr_iconst rfl rfl ?_
      refine wr_zret rfl rfl (by decide) ?_
      refine ⟨o7, A4, w, fun j x y z u v => by rw [n7.2 j z, n6 j v, n5 j x y, n4' j x, n3 j x, n2 j v], ((kpA.opn sA nA).tr r7.kp).tr (kpA.goe sB nB), Or.inl ⟨_, q', q', rfl, bo.2.1, rfl, rfl, by rw [n7.2 5 (by decide), n6 5 (by decide), s5], ?_⟩⟩
      refine P.leap I ho k10 sA nA r7 (by rw [← hj]; exact sB) nB (by rw [u13, x13]; omega) (by rw [n7.2 16 (by decide), s6, x16]; omega)
    ·
      rw [hP]
      refine wr_if_ne rfl rfl rfl (by omega) (fun c58 => by exfalso; omega) (fun c58 => ?_)
      refine wr_iconst rfl rfl ?_
      refine wr_zret rfl rfl (by decide) ?_
      exact ⟨o5, A, w, fun j x y z u v => by rw [n5 j x y, n4' j x, n3 j x, n2 j v], kpA.rf, Or.inr ⟨q', rfl, rfl, s6⟩⟩
  ·
    rw [if_pos (Or.inr c)]
    refine wr_bipush rfl rfl (by decide) ?_
    refine wr_icmp_ne rfl rfl rfl (by omega) (by omega) (fun c41 => ?_) (fun c41 => by exfalso; omega)
    refine wr_aload_n rfl rfl rfl ?_
    refine wr_get (ci := 12) (f := 7) rfl rfl rfl (by assumption) rfl ?_
    refine wr_iload_n rfl rfl rfl ?_
    refine wr_iald rfl rfl (by assumption) (by omega) (by omega) ?_
    rw [et]
    refine wr_bipush rfl rfl (by decide) ?_
    refine wr_icmp_ne rfl rfl rfl (by omega) (by omega) (fun c114 => by exfalso; omega) (fun c114 => ?_)
    refine wr_aload_n rfl rfl rfl ?_
    refine wr_get (ci := 12) (f := 10) rfl rfl rfl (by assumption) rfl ?_
    refine wr_iload_n rfl rfl rfl ?_
    refine wr_iconst rfl rfl ?_
    refine wr_aload_n rfl rfl rfl ?_
    refine wr_get (ci := 12) (f := 13) rfl rfl rfl (by assumption) rfl ?_
    rw [y13]
    refine wr_isub rfl rfl ?_
    refine wr_iast rfl rfl (by assumption) (by omega) (by omega) (fun h1 e1 => ?_)
    rw [et] at e1
    have w := e1 ▸ (w.setA (p := 172) (n := 300) (by decide) (by decide) (updI (A 172) (150 + j0) (-1 - (s.od : Int)))).2
    clear e1
    obtain ⟨A2, w, sA, nA⟩ := fa_ex w
    have cO := w.cO
    refine wr_goto rfl rfl ?_
    refine wr_iconst rfl rfl ?_
    refine wr_zret rfl rfl (by decide) ?_
    refine ⟨o3, A2, w, fun j x y z u v => by rw [n3 j x, n2 j v], kpA.goe sA nA, Or.inl ⟨_, q, q, rfl, kb, rfl, rfl, s3, ?_⟩⟩
    exact P.pop I ho (by rw [← hj]; exact sA) nA (by rw [if_neg k10]) (by rw [n3 13 (by decide), n2 13 (by decide)]) (by rw [n3 16 (by decide), s2, x16])
end RRG
