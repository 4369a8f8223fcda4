/-! THE REFERENCE READS: templates, the whole text -/
section RRH
variable {X : Nat × (Nat → Int32)} {h0 h h' : am_H} {o o' o'' : Nat → Int} {A A' A'' : Nat → Nat → Int} {F F' : Nat → Rat} {T : Nat → Int} {n : Nat} {z : PS}
theorem stpP_st {s s' : PT} {k : Int} {P : PR (Int × Int)} {q : Nat} (h : stpP s k P = .ok (s', q)) : s'.st = s.st + 1 := by
  unfold stpP at h
  cases P with
  | error r => cases h
  | ok a => obtain ⟨a, r⟩ := a; cases h; rfl
theorem pchoice_st {s s' : PT} {p q : Nat} (h : pchoice T n s p = .ok (s', q)) : s'.st = s.st + 1 := by
  unfold pchoice at h
  split at h
  · cases h
  · split at h
    · cases h
    · split at h
      · cases h
      · cases h; rfl
theorem pclose_st {s s' : PT} {p q : Nat} (h : pclose T n s p = .ok (s', q)) : s'.st = s.st := by
  unfold pclose at h
  split at h
  · cases h; rfl
  · split at h
    · cases h
    · cases h; rfl
theorem pitem_skp {s : PT} {p q : Nat} (e : skp T n p = skp T n q) : pitem T n s p = pitem T n s q := by
  unfold pitem
  rw [e]
theorem ptmpl_skp {s : PT} {F p q : Nat} (e : skp T n p = skp T n q) (hF : 0 < F) : ptmpl T n F s p = ptmpl T n F s q := by
  cases F with
  | zero => omega
  | succ F => unfold ptmpl; rw [pitem_skp e]
theorem rr_tmplL {d b : Nat} (S : okS T n) (hb : b ≤ 120) : ∀ (G : Nat) (s : PT) (p : Nat) (o : Nat → Int) (A : Nat → Nat → Int) (h : am_H) (x y : Value), FW h0 h o F A → RT T n o A → o 5 = (p : Int) → p ≤ n → n - skp T n p < G → PD s o A → InvT b s → am_w X (d + 4) 157 (9, [.ref 164, .int (iI s.st), .int (iI 1), x, y], [], h) (rpQ h0 o F A T n (ptmpl T n G s p)) := by
  intro G
  induction G with
  | zero => intro s p o A h x y w t e5 hp hG; omega
  | succ G ih =>
    intro s p o A h x y w t e5 hp hG P I
    have cO := w.cO
    have sb := sgA_IN S (skp T n p)
    have kb := (skp_spec T n p).2.1 hp
    have n4 := S.1
    have st12 := I.st12
    have op5 := I.op5
    have okJ : ∀ (s' : PT) (q' p' : Nat) (o3 : Nat → Int) (A3 : Nat → Nat → Int) (h3 : am_H) (x y : Value), pitem T n s p = .ok (some s', q') → p' ≤ n → skp T n p' = skp T n q' → o3 5 = (p' : Int) → PD s' o3 A3 → FW h0 h3 o3 F A3 → kpO o o3 → kpA A A3 → am_w X (d + 4) 157 (9, [.ref 164, .int (iI s'.st), .int (iI 1), x, y], [], h3) (rpQ h0 o F A T n (ptmpl T n (G + 1) s p)) := by
      intro s' q' p' o3 A3 h3 x y hi hp' ep e5 P3 w3 kO kA
      have m1 := pitem_more I hp hi
      rw [pitem_skp (skp_idem T n p).symm] at hi
      have m2 := pitem_more I kb hi
      have sk := skp_spec T n q'
      have := ih s' p' o3 A3 h3 x y w3 (t.kp kO kA) e5 hp' (by rw [ep]; omega) P3 m1.1
      refine this.mono (fun r h' k => k.of kO kA ?_)
      rw [pitem_skp (skp_idem T n p)] at hi
      rw [ptmpl_skp ep (by omega)]
      show _ = ptmpl T n (G + 1) s p
      rw [ptmpl, hi]
    have erJ : ∀ (q' : Nat) (o3 : Nat → Int) (A3 : Nat → Nat → Int) (h3 : am_H), pitem T n s p = .error q' → o3 6 = (q' : Int) → FW h0 h3 o3 F A3 → kpO o o3 → kpA A A3 → rpQ h0 o F A T n (ptmpl T n (G + 1) s p) (some (.int (iI 0))) h3 := by
      intro q' o3 A3 h3 hi e6 w3 kO kA
      refine ⟨o3, A3, w3, kO, kA, Or.inr ⟨q', ?_, rfl, e6⟩⟩
      rw [ptmpl, hi]
    refine wr_iload_n rfl rfl rfl ?_
    refine wr_if_eq rfl rfl rfl (by omega) (fun c10 => by exfalso; omega) (fun c10 => ?_)
    refine wr_aload_n rfl rfl rfl ?_
    refine wr_cv0 (k' := 155) (ci := 12) rfl rfl rfl rfl (by assumption) rfl rfl (rr_nextC S w t e5 hp) (fun r h2 q => ?_)
    obtain ⟨rfl, o2, w, s2, n2⟩ := q
    have t2 := t.keep (n2 4 (by decide)) (rfl : A 168 = A 168)
    have P2 := P.keep (n2 13 (by decide)) (n2 16 (by decide))
    have cO := w.cO
    have hI : pitem T n s p = pitem T n s p := rfl
    conv at hI =>
      rhs
      unfold pitem pstep
    obtain ⟨q, es⟩ : ∃ q, q = skp T n p := ⟨_, rfl⟩
    rw [← es] at s2 sb kb hI ⊢
    obtain ⟨c, ec⟩ : ∃ c, c = sgA T n 0 q := ⟨_, rfl⟩
    rw [← ec] at sb hI ⊢
    have kc := kindB_cases c
    have k2 : kpO o o2 := fun j x _ _ _ _ => n2 j x
    have x16 : o2 16 = (s.op : Int) := P2.1.2
    by_cases hc : kindB c = -1
    · have cc : c ≠ 76 ∧ c ≠ 66 ∧ c ≠ 74 ∧ c ≠ 83 ∧ c ≠ 87 ∧ c ≠ 63 := by omega
      have E : ¬ (c = 41 ∧ 0 < s.op) → ¬ (c = 125 ∧ s.op = 0) → am_w X (d + 4) 157 (171, [.ref 164, .int (iI s.st), .int (iI 1), .int (iI c), .int (iI 0)], [], h2) (rpQ h0 o F A T n (ptmpl T n (G + 1) s p)) := by
        intro a1 a2
        rw [if_neg a1, if_neg a2, if_pos (Or.inl hc)] at hI
        refine wr_aload_n rfl rfl rfl ?_
        refine wr_aload_n rfl rfl rfl ?_
        refine wr_get (ci := 12) (f := 5) rfl rfl rfl (by assumption) rfl ?_
        rw [s2]
        refine wr_putI (ci := 12) (f := 6) (fs' := [_, _, _, _, _, _, _, _, _, _, _, _, _, _, _, _, _, _, _, _, _, _, _, _, _, _, _, _, _, _, _, _, _, _, _, _, _, _, _]) rfl rfl rfl (by assumption) rfl rfl rfl (fun h1 e1 => ?_)
        have w : FW h0 h1 (updI o2 6 (q)) F A := by rw [e1]; exact w.setO (updI o2 6 (q))
        clear e1
        obtain ⟨o3, w, s3, n3⟩ := fo_ex w
        have cO := w.cO
        refine wr_iconst rfl rfl ?_
        refine wr_zret rfl rfl (by decide) ?_
        exact erJ q o3 A _ hI s3 w (fun j x y z u v => by rw [n3 j y, n2 j x]) kpA.rf
      by_cases c41 : c = 41
      · by_cases o0 : 0 < s.op
        ·
          rw [if_pos ⟨c41, o0⟩] at hI
          have qn : q < n := sb.2.2.1 (by omega)
          refine wr_istore_n (ls' := [_, _, _, _, _]) rfl rfl (Nat.le_of_ble_eq_true rfl) rfl ?_
          refine wr_iload_n rfl rfl rfl ?_
          refine wr_bipush rfl rfl (by decide) ?_
          refine wr_icmp_eq rfl rfl rfl (by omega) (by omega) (fun c21 => by exfalso; omega) (fun c21 => ?_)
          refine wr_iload_n rfl rfl rfl ?_
          refine wr_bipush rfl rfl (by decide) ?_
          refine wr_icmp_eq rfl rfl rfl (by omega) (by omega) (fun c27 => by exfalso; omega) (fun c27 => ?_)
          refine wr_iload_n rfl rfl rfl ?_
          refine wr_bipush rfl rfl (by decide) ?_
          refine wr_icmp_eq rfl rfl rfl (by omega) (by omega) (fun c33 => by exfalso; omega) (fun c33 => ?_)
          refine wr_iload_n rfl rfl rfl ?_
          refine wr_bipush rfl rfl (by decide) ?_
          refine wr_icmp_eq rfl rfl rfl (by omega) (by omega) (fun c39 => by exfalso; omega) (fun c39 => ?_)
          refine wr_iload_n rfl rfl rfl ?_
          refine wr_bipush rfl rfl (by decide) ?_
          refine wr_icmp_eq rfl rfl rfl (by omega) (by omega) (fun c45 => by exfalso; omega) (fun c45 => ?_)
          refine wr_iload_n rfl rfl rfl ?_
          refine wr_bipush rfl rfl (by decide) ?_
          refine wr_icmp_ne rfl rfl rfl (by omega) (by omega) (fun c51 => ?_) (fun c51 => by exfalso; omega)
          refine wr_iconst rfl rfl ?_
          refine wr_istore (ls' := [_, _, _, _, _]) rfl rfl (Nat.le_of_ble_eq_true rfl) rfl ?_
          refine wr_iload rfl rfl rfl ?_
          refine wr_if_eq rfl rfl rfl (by omega) (fun c63 => ?_) (fun c63 => by exfalso; omega)
          refine wr_iload_n rfl rfl rfl ?_
          refine wr_bipush rfl rfl (by decide) ?_
          refine wr_icmp_ne rfl rfl rfl (by omega) (by omega) (fun c114 => by exfalso; omega) (fun c114 => ?_)
          refine wr_aload_n rfl rfl rfl ?_
          refine wr_get (ci := 12) (f := 16) rfl rfl rfl (by assumption) rfl ?_
          rw [x16]
          refine wr_if_le rfl rfl rfl (by omega) (fun c121 => by exfalso; omega) (fun c121 => ?_)
          refine wr_aload_n rfl rfl rfl ?_
          refine wr_dup rfl rfl ?_
          refine wr_get (ci := 12) (f := 5) rfl rfl rfl (by assumption) rfl ?_
          rw [s2]
          refine wr_iconst rfl rfl ?_
          refine wr_iadd rfl rfl ?_
          refine wr_putI (ci := 12) (f := 5) (fs' := [_, _, _, _, _, _, _, _, _, _, _, _, _, _, _, _, _, _, _, _, _, _, _, _, _, _, _, _, _, _, _, _, _, _, _, _, _, _, _]) rfl rfl rfl (by assumption) rfl rfl rfl (fun h1 e1 => ?_)
          have w : FW h0 h1 (updI o2 5 ((q:Int)+1)) F A := by rw [e1]; exact w.setO (updI o2 5 ((q:Int)+1))
          clear e1
          obtain ⟨o3, w, s3, n3⟩ := fo_ex w
          have cO := w.cO
          have P3 := P2.keep (n3 13 (by decide)) (n3 16 (by decide))
          refine wr_aload_n rfl rfl rfl ?_
          refine wr_cv0 (k' := 163) (ci := 12) rfl rfl rfl rfl (by assumption) rfl rfl (rr_close (p := q) S w (t2.keep (n3 4 (by decide)) rfl) s3 qn P3 I o0 hb) (fun r h2 q => ?_)
          obtain ⟨o4, A4, w, n4, m4, ⟨s', q', p', hP, hp', ep, rfl, s5, P4⟩ | ⟨q', hP, rfl, s6⟩⟩ := q
          ·
            rw [hP] at hI
            refine wr_if_ne rfl rfl rfl (by omega) (fun c138 => ?_) (fun c138 => by exfalso; omega)
            refine wr_goto rfl rfl ?_
            rw [← pclose_st hP]
            exact okJ s' q' p' o4 A4 _ _ _ hI hp' ep s5 P4 w (k2.tr (kpO.tr (fun j x _ _ _ _ => n3 j x) n4)) m4
          ·
            rw [hP] at hI
            refine wr_if_ne rfl rfl rfl (by omega) (fun c138 => by exfalso; omega) (fun c138 => ?_)
            refine wr_iconst rfl rfl ?_
            refine wr_zret rfl rfl (by decide) ?_
            exact erJ q' o4 A4 _ hI s6 w (k2.tr (kpO.tr (fun j x _ _ _ _ => n3 j x) n4)) m4
        ·
          refine wr_istore_n (ls' := [_, _, _, _, _]) rfl rfl (Nat.le_of_ble_eq_true rfl) rfl ?_
          refine wr_iload_n rfl rfl rfl ?_
          refine wr_bipush rfl rfl (by decide) ?_
          refine wr_icmp_eq rfl rfl rfl (by omega) (by omega) (fun c21 => by exfalso; omega) (fun c21 => ?_)
          refine wr_iload_n rfl rfl rfl ?_
          refine wr_bipush rfl rfl (by decide) ?_
          refine wr_icmp_eq rfl rfl rfl (by omega) (by omega) (fun c27 => by exfalso; omega) (fun c27 => ?_)
          refine wr_iload_n rfl rfl rfl ?_
          refine wr_bipush rfl rfl (by decide) ?_
          refine wr_icmp_eq rfl rfl rfl (by omega) (by omega) (fun c33 => by exfalso; omega) (fun c33 => ?_)
          refine wr_iload_n rfl rfl rfl ?_
          refine wr_bipush rfl rfl (by decide) ?_
          refine wr_icmp_eq rfl rfl rfl (by omega) (by omega) (fun c39 => by exfalso; omega) (fun c39 => ?_)
          refine wr_iload_n rfl rfl rfl ?_
          refine wr_bipush rfl rfl (by decide) ?_
          refine wr_icmp_eq rfl rfl rfl (by omega) (by omega) (fun c45 => by exfalso; omega) (fun c45 => ?_)
          refine wr_iload_n rfl rfl rfl ?_
          refine wr_bipush rfl rfl (by decide) ?_
          refine wr_icmp_ne rfl rfl rfl (by omega) (by omega) (fun c51 => ?_) (fun c51 => by exfalso; omega)
          refine wr_iconst rfl rfl ?_
          refine wr_istore (ls' := [_, _, _, _, _]) rfl rfl (Nat.le_of_ble_eq_true rfl) rfl ?_
          refine wr_iload rfl rfl rfl ?_
          refine wr_if_eq rfl rfl rfl (by omega) (fun c63 => ?_) (fun c63 => by exfalso; omega)
          refine wr_iload_n rfl rfl rfl ?_
          refine wr_bipush rfl rfl (by decide) ?_
          refine wr_icmp_ne rfl rfl rfl (by omega) (by omega) (fun c114 => by exfalso; omega) (fun c114 => ?_)
          refine wr_aload_n rfl rfl rfl ?_
          refine wr_get (ci := 12) (f := 16) rfl rfl rfl (by assumption) rfl ?_
          rw [x16]
          refine wr_if_le rfl rfl rfl (by omega) (fun c121 => ?_) (fun c121 => by exfalso; omega)
          refine wr_iload_n rfl rfl rfl ?_
          refine wr_bipush rfl rfl (by decide) ?_
          refine wr_icmp_ne rfl rfl rfl (by omega) (by omega) (fun c146 => ?_) (fun c146 => by exfalso; omega)
          exact E (by omega) (by omega)
      by_cases c125 : c = 125
      · by_cases o0 : s.op = 0
        ·
          rw [if_neg (by omega), if_pos ⟨c125, o0⟩] at hI
          have qn : q < n := sb.2.2.1 (by omega)
          refine wr_istore_n (ls' := [_, _, _, _, _]) rfl rfl (Nat.le_of_ble_eq_true rfl) rfl ?_
          refine wr_iload_n rfl rfl rfl ?_
          refine wr_bipush rfl rfl (by decide) ?_
          refine wr_icmp_eq rfl rfl rfl (by omega) (by omega) (fun c21 => by exfalso; omega) (fun c21 => ?_)
          refine wr_iload_n rfl rfl rfl ?_
          refine wr_bipush rfl rfl (by decide) ?_
          refine wr_icmp_eq rfl rfl rfl (by omega) (by omega) (fun c27 => by exfalso; omega) (fun c27 => ?_)
          refine wr_iload_n rfl rfl rfl ?_
          refine wr_bipush rfl rfl (by decide) ?_
          refine wr_icmp_eq rfl rfl rfl (by omega) (by omega) (fun c33 => by exfalso; omega) (fun c33 => ?_)
          refine wr_iload_n rfl rfl rfl ?_
          refine wr_bipush rfl rfl (by decide) ?_
          refine wr_icmp_eq rfl rfl rfl (by omega) (by omega) (fun c39 => by exfalso; omega) (fun c39 => ?_)
          refine wr_iload_n rfl rfl rfl ?_
          refine wr_bipush rfl rfl (by decide) ?_
          refine wr_icmp_eq rfl rfl rfl (by omega) (by omega) (fun c45 => by exfalso; omega) (fun c45 => ?_)
          refine wr_iload_n rfl rfl rfl ?_
          refine wr_bipush rfl rfl (by decide) ?_
          refine wr_icmp_ne rfl rfl rfl (by omega) (by omega) (fun c51 => ?_) (fun c51 => by exfalso; omega)
          refine wr_iconst rfl rfl ?_
          refine wr_istore (ls' := [_, _, _, _, _]) rfl rfl (Nat.le_of_ble_eq_true rfl) rfl ?_
          refine wr_iload rfl rfl rfl ?_
          refine wr_if_eq rfl rfl rfl (by omega) (fun c63 => ?_) (fun c63 => by exfalso; omega)
          refine wr_iload_n rfl rfl rfl ?_
          refine wr_bipush rfl rfl (by decide) ?_
          refine wr_icmp_ne rfl rfl rfl (by omega) (by omega) (fun c114 => ?_) (fun c114 => by exfalso; omega)
          refine wr_iload_n rfl rfl rfl ?_
          refine wr_bipush rfl rfl (by decide) ?_
          refine wr_icmp_ne rfl rfl rfl (by omega) (by omega) (fun c146 => by exfalso; omega) (fun c146 => ?_)
          refine wr_aload_n rfl rfl rfl ?_
          refine wr_get (ci := 12) (f := 16) rfl rfl rfl (by assumption) rfl ?_
          rw [x16]
          refine wr_if_ne rfl rfl rfl (by omega) (fun c153 => by exfalso; omega) (fun c153 => ?_)
          refine wr_aload_n rfl rfl rfl ?_
          refine wr_dup rfl rfl ?_
          refine wr_get (ci := 12) (f := 5) rfl rfl rfl (by assumption) rfl ?_
          rw [s2]
          refine wr_iconst rfl rfl ?_
          refine wr_iadd rfl rfl ?_
          refine wr_putI (ci := 12) (f := 5) (fs' := [_, _, _, _, _, _, _, _, _, _, _, _, _, _, _, _, _, _, _, _, _, _, _, _, _, _, _, _, _, _, _, _, _, _, _, _, _, _, _]) rfl rfl rfl (by assumption) rfl rfl rfl (fun h1 e1 => ?_)
          have w : FW h0 h1 (updI o2 5 ((q:Int)+1)) F A := by rw [e1]; exact w.setO (updI o2 5 ((q:Int)+1))
          clear e1
          obtain ⟨o3, w, s3, n3⟩ := fo_ex w
          have cO := w.cO
          refine wr_iconst rfl rfl ?_
          refine wr_istore_n (ls' := [_, _, _, _, _]) rfl rfl (Nat.le_of_ble_eq_true rfl) rfl ?_
          refine wr_goto rfl rfl ?_
          refine wr_goto rfl rfl ?_
          refine wr_iload_n rfl rfl rfl ?_
          refine wr_if_eq rfl rfl rfl (by omega) (fun c10 => ?_) (fun c10 => by exfalso; omega)
          refine wr_iconst rfl rfl ?_
          refine wr_zret rfl rfl (by decide) ?_
          refine ⟨o3, A, w, k2.tr (fun j x _ _ _ _ => n3 j x), kpA.rf, Or.inl ⟨s, q + 1, q + 1, ?_, qn, rfl, rfl, by rw [s3]; omega, P2.keep (n3 13 (by decide)) (n3 16 (by decide))⟩⟩
          rw [ptmpl, hI]
        ·
          refine wr_istore_n (ls' := [_, _, _, _, _]) rfl rfl (Nat.le_of_ble_eq_true rfl) rfl ?_
          refine wr_iload_n rfl rfl rfl ?_
          refine wr_bipush rfl rfl (by decide) ?_
          refine wr_icmp_eq rfl rfl rfl (by omega) (by omega) (fun c21 => by exfalso; omega) (fun c21 => ?_)
          refine wr_iload_n rfl rfl rfl ?_
          refine wr_bipush rfl rfl (by decide) ?_
          refine wr_icmp_eq rfl rfl rfl (by omega) (by omega) (fun c27 => by exfalso; omega) (fun c27 => ?_)
          refine wr_iload_n rfl rfl rfl ?_
          refine wr_bipush rfl rfl (by decide) ?_
          refine wr_icmp_eq rfl rfl rfl (by omega) (by omega) (fun c33 => by exfalso; omega) (fun c33 => ?_)
          refine wr_iload_n rfl rfl rfl ?_
          refine wr_bipush rfl rfl (by decide) ?_
          refine wr_icmp_eq rfl rfl rfl (by omega) (by omega) (fun c39 => by exfalso; omega) (fun c39 => ?_)
          refine wr_iload_n rfl rfl rfl ?_
          refine wr_bipush rfl rfl (by decide) ?_
          refine wr_icmp_eq rfl rfl rfl (by omega) (by omega) (fun c45 => by exfalso; omega) (fun c45 => ?_)
          refine wr_iload_n rfl rfl rfl ?_
          refine wr_bipush rfl rfl (by decide) ?_
          refine wr_icmp_ne rfl rfl rfl (by omega) (by omega) (fun c51 => ?_) (fun c51 => by exfalso; omega)
          refine wr_iconst rfl rfl ?_
          refine wr_istore (ls' := [_, _, _, _, _]) rfl rfl (Nat.le_of_ble_eq_true rfl) rfl ?_
          refine wr_iload rfl rfl rfl ?_
          refine wr_if_eq rfl rfl rfl (by omega) (fun c63 => ?_) (fun c63 => by exfalso; omega)
          refine wr_iload_n rfl rfl rfl ?_
          refine wr_bipush rfl rfl (by decide) ?_
          refine wr_icmp_ne rfl rfl rfl (by omega) (by omega) (fun c114 => ?_) (fun c114 => by exfalso; omega)
          refine wr_iload_n rfl rfl rfl ?_
          refine wr_bipush rfl rfl (by decide) ?_
          refine wr_icmp_ne rfl rfl rfl (by omega) (by omega) (fun c146 => by exfalso; omega) (fun c146 => ?_)
          refine wr_aload_n rfl rfl rfl ?_
          refine wr_get (ci := 12) (f := 16) rfl rfl rfl (by assumption) rfl ?_
          rw [x16]
          refine wr_if_ne rfl rfl rfl (by omega) (fun c153 => ?_) (fun c153 => by exfalso; omega)
          exact E (by omega) (by omega)
      ·
        refine wr_istore_n (ls' := [_, _, _, _, _]) rfl rfl (Nat.le_of_ble_eq_true rfl) rfl ?_
        refine wr_iload_n rfl rfl rfl ?_
        refine wr_bipush rfl rfl (by decide) ?_
        refine wr_icmp_eq rfl rfl rfl (by omega) (by omega) (fun c21 => by exfalso; omega) (fun c21 => ?_)
        refine wr_iload_n rfl rfl rfl ?_
        refine wr_bipush rfl rfl (by decide) ?_
        refine wr_icmp_eq rfl rfl rfl (by omega) (by omega) (fun c27 => by exfalso; omega) (fun c27 => ?_)
        refine wr_iload_n rfl rfl rfl ?_
        refine wr_bipush rfl rfl (by decide) ?_
        refine wr_icmp_eq rfl rfl rfl (by omega) (by omega) (fun c33 => by exfalso; omega) (fun c33 => ?_)
        refine wr_iload_n rfl rfl rfl ?_
        refine wr_bipush rfl rfl (by decide) ?_
        refine wr_icmp_eq rfl rfl rfl (by omega) (by omega) (fun c39 => by exfalso; omega) (fun c39 => ?_)
        refine wr_iload_n rfl rfl rfl ?_
        refine wr_bipush rfl rfl (by decide) ?_
        refine wr_icmp_eq rfl rfl rfl (by omega) (by omega) (fun c45 => by exfalso; omega) (fun c45 => ?_)
        refine wr_iload_n rfl rfl rfl ?_
        refine wr_bipush rfl rfl (by decide) ?_
        refine wr_icmp_ne rfl rfl rfl (by omega) (by omega) (fun c51 => ?_) (fun c51 => by exfalso; omega)
        refine wr_iconst rfl rfl ?_
        refine wr_istore (ls' := [_, _, _, _, _]) rfl rfl (Nat.le_of_ble_eq_true rfl) rfl ?_
        refine wr_iload rfl rfl rfl ?_
        refine wr_if_eq rfl rfl rfl (by omega) (fun c63 => ?_) (fun c63 => by exfalso; omega)
        refine wr_iload_n rfl rfl rfl ?_
        refine wr_bipush rfl rfl (by decide) ?_
        refine wr_icmp_ne rfl rfl rfl (by omega) (by omega) (fun c114 => ?_) (fun c114 => by exfalso; omega)
        refine wr_iload_n rfl rfl rfl ?_
        refine wr_bipush rfl rfl (by decide) ?_
        refine wr_icmp_ne rfl rfl rfl (by omega) (by omega) (fun c146 => ?_) (fun c146 => by exfalso; omega)
        exact E (by omega) (by omega)
    · have qn : q < n := sb.2.2.1 (by omega)
      rw [if_neg (by omega), if_neg (by omega)] at hI
      have K : am_w X (d + 4) 157 (61, [.ref 164, .int (iI s.st), .int (iI 1), .int (iI c), .int (iI 1)], [], h2) (rpQ h0 o F A T n (ptmpl T n (G + 1) s p)) := by
        by_cases sf : s.st < 12
        ·
          rw [if_neg (by omega)] at hI
          refine wr_iload rfl rfl rfl ?_
          refine wr_if_eq rfl rfl rfl (by omega) (fun c63 => by exfalso; omega) (fun c63 => ?_)
          refine wr_iload_n rfl rfl rfl ?_
          refine wr_bipush rfl rfl (by decide) ?_
          refine wr_icmp_ge rfl rfl rfl (by omega) (by omega) (fun c69 => by exfalso; omega) (fun c69 => ?_)
          refine wr_iinc (ls' := [_, _, _, _, _]) rfl rfl rfl rfl ?_
          refine wr_aload_n rfl rfl rfl ?_
          refine wr_dup rfl rfl ?_
          refine wr_get (ci := 12) (f := 5) rfl rfl rfl (by assumption) rfl ?_
          rw [s2]
          refine wr_iconst rfl rfl ?_
          refine wr_iadd rfl rfl ?_
          refine wr_putI (ci := 12) (f := 5) (fs' := [_, _, _, _, _, _, _, _, _, _, _, _, _, _, _, _, _, _, _, _, _, _, _, _, _, _, _, _, _, _, _, _, _, _, _, _, _, _, _]) rfl rfl rfl (by assumption) rfl rfl rfl (fun h1 e1 => ?_)
          have w : FW h0 h1 (updI o2 5 ((q:Int)+1)) F A := by rw [e1]; exact w.setO (updI o2 5 ((q:Int)+1))
          clear e1
          obtain ⟨o3, w, s3, n3⟩ := fo_ex w
          have cO := w.cO
          have P3 := P2.keep (n3 13 (by decide)) (n3 16 (by decide))
          have t3 := t2.keep (n3 4 (by decide)) (rfl : A 168 = A 168)
          have e5 : o3 5 = ((q + 1 : Nat) : Int) := by rw [s3]; omega
          have kO := k2.tr (fun j x _ _ _ _ => n3 j x)
          by_cases c63 : c = 63
          ·
            rw [if_pos (by omega)] at hI
            refine wr_iload_n rfl rfl rfl ?_
            refine wr_bipush rfl rfl (by decide) ?_
            refine wr_icmp_ne rfl rfl rfl (by omega) (by omega) (fun c88 => by exfalso; omega) (fun c88 => ?_)
            refine wr_aload_n rfl rfl rfl ?_
            refine wr_cv0 (k' := 158) (ci := 12) rfl rfl rfl rfl (by assumption) rfl rfl (rr_ask S w t3 e5 qn P3 I sf hb) (fun r h2 q => ?_)
            obtain ⟨o4, A4, w, n4, m4, ⟨s', q', p', hP, hp', ep, rfl, s5, P4⟩ | ⟨q', hP, rfl, s6⟩⟩ := q
            ·
              rw [hP] at hI
              refine wr_if_ne rfl rfl rfl (by omega) (fun c95 => ?_) (fun c95 => by exfalso; omega)
              refine wr_goto rfl rfl ?_
              have := okJ s' q' p' o4 A4 _ (.int (iI c)) (.int (iI 1)) hI hp' ep s5 P4 w (kO.tr n4) m4
              rw [pchoice_st hP] at this
              exact this
            ·
              rw [hP] at hI
              refine wr_if_ne rfl rfl rfl (by omega) (fun c95 => by exfalso; omega) (fun c95 => ?_)
              refine wr_goto rfl rfl ?_
              refine wr_iconst rfl rfl ?_
              refine wr_zret rfl rfl (by decide) ?_
              exact erJ q' o4 A4 _ hI s6 w (kO.tr n4) m4
          ·
            rw [if_neg (by omega)] at hI
            have hI : pitem T n s p = (stpP s (kindB c) (pargs T n (kindB c) (q + 1))).it := hI
            refine wr_iload_n rfl rfl rfl ?_
            refine wr_bipush rfl rfl (by decide) ?_
            refine wr_icmp_ne rfl rfl rfl (by omega) (by omega) (fun c88 => ?_) (fun c88 => by exfalso; omega)
            refine wr_aload_n rfl rfl rfl ?_
            refine wr_iload_n rfl rfl rfl ?_
            refine wr_cv1 (k' := 162) (ci := 12) rfl rfl rfl rfl (by assumption) rfl rfl (rr_step (c := c) S w t3 e5 qn P3 I sf hb (by omega)) (fun r h2 q => ?_)
            obtain ⟨o4, A4, w, n4, m4, ⟨s', q', p', hP, hp', ep, rfl, s5, P4⟩ | ⟨q', hP, rfl, s6⟩⟩ := q
            ·
              rw [hP] at hI
              refine wr_if_ne rfl rfl rfl (by omega) (fun c106 => ?_) (fun c106 => by exfalso; omega)
              refine wr_goto rfl rfl ?_
              have := okJ s' q' p' o4 A4 _ (.int (iI c)) (.int (iI 1)) hI hp' ep s5 P4 w (kO.tr n4) m4
              rw [stpP_st hP] at this
              exact this
            ·
              rw [hP] at hI
              refine wr_if_ne rfl rfl rfl (by omega) (fun c106 => by exfalso; omega) (fun c106 => ?_)
              refine wr_iconst rfl rfl ?_
              refine wr_zret rfl rfl (by decide) ?_
              exact erJ q' o4 A4 _ hI s6 w (kO.tr n4) m4
        ·
          rw [if_pos (by omega)] at hI
          refine wr_iload rfl rfl rfl ?_
          refine wr_if_eq rfl rfl rfl (by omega) (fun c63 => by exfalso; omega) (fun c63 => ?_)
          refine wr_iload_n rfl rfl rfl ?_
          refine wr_bipush rfl rfl (by decide) ?_
          refine wr_icmp_ge rfl rfl rfl (by omega) (by omega) (fun c69 => ?_) (fun c69 => by exfalso; omega)
          refine wr_iload_n rfl rfl rfl ?_
          refine wr_bipush rfl rfl (by decide) ?_
          refine wr_icmp_ne rfl rfl rfl (by omega) (by omega) (fun c114 => ?_) (fun c114 => by exfalso; omega)
          refine wr_iload_n rfl rfl rfl ?_
          refine wr_bipush rfl rfl (by decide) ?_
          refine wr_icmp_ne rfl rfl rfl (by omega) (by omega) (fun c146 => ?_) (fun c146 => by exfalso; omega)
          refine wr_aload_n rfl rfl rfl ?_
          refine wr_aload_n rfl rfl rfl ?_
          refine wr_get (ci := 12) (f := 5) rfl rfl rfl (by assumption) rfl ?_
          rw [s2]
          refine wr_putI (ci := 12) (f := 6) (fs' := [_, _, _, _, _, _, _, _, _, _, _, _, _, _, _, _, _, _, _, _, _, _, _, _, _, _, _, _, _, _, _, _, _, _, _, _, _, _, _]) rfl rfl rfl (by assumption) rfl rfl rfl (fun h1 e1 => ?_)
          have w : FW h0 h1 (updI o2 6 (q)) F A := by rw [e1]; exact w.setO (updI o2 6 (q))
          clear e1
          obtain ⟨o3, w, s3, n3⟩ := fo_ex w
          have cO := w.cO
          refine wr_iconst rfl rfl ?_
          refine wr_zret rfl rfl (by decide) ?_
          exact erJ q o3 A _ hI s3 w (fun j x y z u v => by rw [n3 j y, n2 j x]) kpA.rf
      by_cases c1 : c = 76
      ·
        refine wr_istore_n (ls' := [_, _, _, _, _]) rfl rfl (Nat.le_of_ble_eq_true rfl) rfl ?_
        refine wr_iload_n rfl rfl rfl ?_
        refine wr_bipush rfl rfl (by decide) ?_
        refine wr_icmp_eq rfl rfl rfl (by omega) (by omega) (fun c21 => ?_) (fun c21 => by exfalso; omega)
        refine wr_iconst rfl rfl ?_
        refine wr_goto rfl rfl ?_
        refine wr_istore (ls' := [_, _, _, _, _]) rfl rfl (Nat.le_of_ble_eq_true rfl) rfl ?_
        exact K
      by_cases c2 : c = 66
      ·
        refine wr_istore_n (ls' := [_, _, _, _, _]) rfl rfl (Nat.le_of_ble_eq_true rfl) rfl ?_
        refine wr_iload_n rfl rfl rfl ?_
        refine wr_bipush rfl rfl (by decide) ?_
        refine wr_icmp_eq rfl rfl rfl (by omega) (by omega) (fun c21 => by exfalso; omega) (fun c21 => ?_)
        refine wr_iload_n rfl rfl rfl ?_
        refine wr_bipush rfl rfl (by decide) ?_
        refine wr_icmp_eq rfl rfl rfl (by omega) (by omega) (fun c27 => ?_) (fun c27 => by exfalso; omega)
        refine wr_iconst rfl rfl ?_
        refine wr_goto rfl rfl ?_
        refine wr_istore (ls' := [_, _, _, _, _]) rfl rfl (Nat.le_of_ble_eq_true rfl) rfl ?_
        exact K
      by_cases c3 : c = 74
      ·
        refine wr_istore_n (ls' := [_, _, _, _, _]) rfl rfl (Nat.le_of_ble_eq_true rfl) rfl ?_
        refine wr_iload_n rfl rfl rfl ?_
        refine wr_bipush rfl rfl (by decide) ?_
        refine wr_icmp_eq rfl rfl rfl (by omega) (by omega) (fun c21 => by exfalso; omega) (fun c21 => ?_)
        refine wr_iload_n rfl rfl rfl ?_
        refine wr_bipush rfl rfl (by decide) ?_
        refine wr_icmp_eq rfl rfl rfl (by omega) (by omega) (fun c27 => by exfalso; omega) (fun c27 => ?_)
        refine wr_iload_n rfl rfl rfl ?_
        refine wr_bipush rfl rfl (by decide) ?_
        refine wr_icmp_eq rfl rfl rfl (by omega) (by omega) (fun c33 => ?_) (fun c33 => by exfalso; omega)
        refine wr_iconst rfl rfl ?_
        refine wr_goto rfl rfl ?_
        refine wr_istore (ls' := [_, _, _, _, _]) rfl rfl (Nat.le_of_ble_eq_true rfl) rfl ?_
        exact K
      by_cases c4 : c = 83
      ·
        refine wr_istore_n (ls' := [_, _, _, _, _]) rfl rfl (Nat.le_of_ble_eq_true rfl) rfl ?_
        refine wr_iload_n rfl rfl rfl ?_
        refine wr_bipush rfl rfl (by decide) ?_
        refine wr_icmp_eq rfl rfl rfl (by omega) (by omega) (fun c21 => by exfalso; omega) (fun c21 => ?_)
        refine wr_iload_n rfl rfl rfl ?_
        refine wr_bipush rfl rfl (by decide) ?_
        refine wr_icmp_eq rfl rfl rfl (by omega) (by omega) (fun c27 => by exfalso; omega) (fun c27 => ?_)
        refine wr_iload_n rfl rfl rfl ?_
        refine wr_bipush rfl rfl (by decide) ?_
        refine wr_icmp_eq rfl rfl rfl (by omega) (by omega) (fun c33 => by exfalso; omega) (fun c33 => ?_)
        refine wr_iload_n rfl rfl rfl ?_
        refine wr_bipush rfl rfl (by decide) ?_
        refine wr_icmp_eq rfl rfl rfl (by omega) (by omega) (fun c39 => ?_) (fun c39 => by exfalso; omega)
        refine wr_iconst rfl rfl ?_
        refine wr_goto rfl rfl ?_
        refine wr_istore (ls' := [_, _, _, _, _]) rfl rfl (Nat.le_of_ble_eq_true rfl) rfl ?_
        exact K
      by_cases c5 : c = 87
      ·
        refine wr_istore_n (ls' := [_, _, _, _, _]) rfl rfl (Nat.le_of_ble_eq_true rfl) rfl ?_
        refine wr_iload_n rfl rfl rfl ?_
        refine wr_bipush rfl rfl (by decide) ?_
        refine wr_icmp_eq rfl rfl rfl (by omega) (by omega) (fun c21 => by exfalso; omega) (fun c21 => ?_)
        refine wr_iload_n rfl rfl rfl ?_
        refine wr_bipush rfl rfl (by decide) ?_
        refine wr_icmp_eq rfl rfl rfl (by omega) (by omega) (fun c27 => by exfalso; omega) (fun c27 => ?_)
        refine wr_iload_n rfl rfl rfl ?_
        refine wr_bipush rfl rfl (by decide) ?_
        refine wr_icmp_eq rfl rfl rfl (by omega) (by omega) (fun c33 => by exfalso; omega) (fun c33 => ?_)
        refine wr_iload_n rfl rfl rfl ?_
        refine wr_bipush rfl rfl (by decide) ?_
        refine wr_icmp_eq rfl rfl rfl (by omega) (by omega) (fun c39 => by exfalso; omega) (fun c39 => ?_)
        refine wr_iload_n rfl rfl rfl ?_
        refine wr_bipush rfl rfl (by decide) ?_
        refine wr_icmp_eq rfl rfl rfl (by omega) (by omega) (fun c45 => ?_) (fun c45 => by exfalso; omega)
        refine wr_iconst rfl rfl ?_
        refine wr_goto rfl rfl ?_
        refine wr_istore (ls' := [_, _, _, _, _]) rfl rfl (Nat.le_of_ble_eq_true rfl) rfl ?_
        exact K
      ·
        refine wr_istore_n (ls' := [_, _, _, _, _]) rfl rfl (Nat.le_of_ble_eq_true rfl) rfl ?_
        refine wr_iload_n rfl rfl rfl ?_
        refine wr_bipush rfl rfl (by decide) ?_
        refine wr_icmp_eq rfl rfl rfl (by omega) (by omega) (fun c21 => by exfalso; omega) (fun c21 => ?_)
        refine wr_iload_n rfl rfl rfl ?_
        refine wr_bipush rfl rfl (by decide) ?_
        refine wr_icmp_eq rfl rfl rfl (by omega) (by omega) (fun c27 => by exfalso; omega) (fun c27 => ?_)
        refine wr_iload_n rfl rfl rfl ?_
        refine wr_bipush rfl rfl (by decide) ?_
        refine wr_icmp_eq rfl rfl rfl (by omega) (by omega) (fun c33 => by exfalso; omega) (fun c33 => ?_)
        refine wr_iload_n rfl rfl rfl ?_
        refine wr_bipush rfl rfl (by decide) ?_
        refine wr_icmp_eq rfl rfl rfl (by omega) (by omega) (fun c39 => by exfalso; omega) (fun c39 => ?_)
        refine wr_iload_n rfl rfl rfl ?_
        refine wr_bipush rfl rfl (by decide) ?_
        refine wr_icmp_eq rfl rfl rfl (by omega) (by omega) (fun c45 => by exfalso; omega) (fun c45 => ?_)
        refine wr_iload_n rfl rfl rfl ?_
        refine wr_bipush rfl rfl (by decide) ?_
        refine wr_icmp_ne rfl rfl rfl (by omega) (by omega) (fun c51 => by exfalso; omega) (fun c51 => ?_)
        refine wr_iconst rfl rfl ?_
        refine wr_goto rfl rfl ?_
        refine wr_istore (ls' := [_, _, _, _, _]) rfl rfl (Nat.le_of_ble_eq_true rfl) rfl ?_
        exact K
/-- rows of templates that are whole -/
def PE (s : PT) (o : Nat → Int) (A : Nat → Nat → Int) : Prop := o 13 = s.od ∧ ∀ j, j < s.od → rowX (A 169 (150 + j)) (A 170 (150 + j)) (A 171 (150 + j)) (s.kd j) (s.fi j) (s.se j) ∧ gE (A 172 (150 + j)) (s.kd j) (s.se j) (s.ta j)
theorem rr_tmpl {d p : Nat} {s : PT} (S : okS T n) (w : FW h0 h o F A) (t : RT T n o A) (e5 : o 5 = (p : Int)) (hp : p ≤ n) (P : PE s o A) (hb : s.od ≤ 120) : am_c X (d + 5) 157 [.ref 164] h (rpQ h0 o F A T n (ptmpl T n 500 (PT.mk s.kd s.fi s.se s.ta s.od (0) s.wt (0)) p)) := by
  have cO := w.cO
  have n4 := S.1
  refine am_c.of (Nat.le_of_ble_eq_true rfl) ?_
  show am_w _ _ _ (_, [_, _, _, _, _], _, _) _
  refine wr_iconst rfl rfl ?_
  refine wr_istore_n (ls' := [_, _, _, _, _]) rfl rfl (Nat.le_of_ble_eq_true rfl) rfl ?_
  refine wr_aload_n rfl rfl rfl ?_
  refine wr_iconst rfl rfl ?_
  refine wr_putI (ci := 12) (f := 16) (fs' := [_, _, _, _, _, _, _, _, _, _, _, _, _, _, _, _, _, _, _, _, _, _, _, _, _, _, _, _, _, _, _, _, _, _, _, _, _, _, _]) rfl rfl rfl (by assumption) rfl rfl rfl (fun h1 e1 => ?_)
  have w : FW h0 h1 (updI o 16 (0)) F A := by rw [e1]; exact w.setO (updI o 16 (0))
  clear e1
  obtain ⟨o2, w, s2, n2⟩ := fo_ex w
  have cO := w.cO
  refine wr_iconst rfl rfl ?_
  refine wr_istore_n (ls' := [_, _, _, _, _]) rfl rfl (Nat.le_of_ble_eq_true rfl) rfl ?_
  have PD0 : PD ((PT.mk s.kd s.fi s.se s.ta s.od (0) s.wt (0)) : PT) o2 A := ⟨⟨(n2 13 (by decide)).trans P.1, s2⟩, fun i hi => absurd hi (Nat.not_lt_zero _), fun j hj => (P.2 j hj).1, fun j hj _ => (P.2 j hj).2, fun i hi => absurd hi (Nat.not_lt_zero _)⟩
  exact (rr_tmplL S hb 500 ((PT.mk s.kd s.fi s.se s.ta s.od (0) s.wt (0)) : PT) p o2 A _ am_U am_U w (t.keep (n2 4 (by decide)) rfl) (by rw [n2 5 (by decide), e5]) hp (by omega) PD0 (InvT.start s)).mono (fun r h' k => k.of (fun j _ _ _ _ v => n2 j v) kpA.rf rfl)
end RRH
