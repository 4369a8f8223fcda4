/-! THE REFERENCE READS: signs, numbers, rows -/
section RRE
variable {X : Nat × (Nat → Int32)} {h0 h h' : am_H} {o o' : Nat → Int} {A A' : Nat → Nat → Int} {F F' : Nat → Rat} {T : Nat → Int} {n : Nat}
theorem rr_next {d : Nat} (S : okS T n) : ∀ (m q : Nat) (o : Nat → Int) (h : am_H), q + m = n → FW h0 h o F A → RT T n o A → o 5 = (q : Int) → am_w X d 155 (0, [.ref 164], [], h) (fun r h' => r = some (.int (iI (sgA T n 0 (skp T n q)))) ∧ ∃ o', FW h0 h' o' F A ∧ o' 5 = (skp T n q : Nat) ∧ ∀ j, j ≠ 5 → o' j = o j) := by
  intro m
  induction m with
  | zero =>
    intro q o h hq w t e5
    have cO := w.cO
    have e4 := t.1
    have n4 := S.1
    have ek : skp T n q = q := skp_end (by omega)
    rw [ek, sgA_out (by omega)]
    refine wr_aload_n rfl rfl rfl ?_
    refine wr_get (ci := 12) (f := 5) rfl rfl rfl (by assumption) rfl ?_
    rw [e5]
    refine wr_aload_n rfl rfl rfl ?_
    refine wr_get (ci := 12) (f := 4) rfl rfl rfl (by assumption) rfl ?_
    rw [e4]
    refine wr_icmp_ge rfl rfl rfl (by omega) (by omega) (fun c8 => ?_) (fun c8 => by exfalso; omega)
    refine wr_aload_n rfl rfl rfl ?_
    refine wr_get (ci := 12) (f := 5) rfl rfl rfl (by assumption) rfl ?_
    rw [e5]
    refine wr_aload_n rfl rfl rfl ?_
    refine wr_get (ci := 12) (f := 4) rfl rfl rfl (by assumption) rfl ?_
    rw [e4]
    refine wr_icmp_ge rfl rfl rfl (by omega) (by omega) (fun c46 => ?_) (fun c46 => by exfalso; omega)
    refine wr_iconst rfl rfl ?_
    refine wr_iret rfl rfl ?_
    exact ⟨rfl, o, w, e5, fun _ _ => rfl⟩
  | succ m ih =>
    intro q o h hq w t e5
    have cO := w.cO
    have e4 := t.1
    have n4 := S.1
    have cT := w.arr (p := 168) (n := 400) (by decide) (by decide)
    have tq := t.2 q (by omega)
    have bq := S.2 q (by omega)
    by_cases c : T q = 32
    ·
      refine wr_aload_n rfl rfl rfl ?_
      refine wr_get (ci := 12) (f := 5) rfl rfl rfl (by assumption) rfl ?_
      rw [e5]
      refine wr_aload_n rfl rfl rfl ?_
      refine wr_get (ci := 12) (f := 4) rfl rfl rfl (by assumption) rfl ?_
      rw [e4]
      refine wr_icmp_ge rfl rfl rfl (by omega) (by omega) (fun c8 => by exfalso; omega) (fun c8 => ?_)
      refine wr_aload_n rfl rfl rfl ?_
      refine wr_get (ci := 12) (f := 3) rfl rfl rfl (by assumption) rfl ?_
      refine wr_aload_n rfl rfl rfl ?_
      refine wr_get (ci := 12) (f := 5) rfl rfl rfl (by assumption) rfl ?_
      rw [e5]
      refine wr_iald rfl rfl (by assumption) (by omega) (by omega) ?_
      rw [Int.toNat_natCast, tq]
      refine wr_bipush rfl rfl (by decide) ?_
      refine wr_icmp_ne rfl rfl rfl (by omega) (by omega) (fun c22 => by exfalso; omega) (fun c22 => ?_)
      refine wr_aload_n rfl rfl rfl ?_
      refine wr_dup rfl rfl ?_
      refine wr_get (ci := 12) (f := 5) rfl rfl rfl (by assumption) rfl ?_
      rw [e5]
      refine wr_iconst rfl rfl ?_
      refine wr_iadd rfl rfl ?_
      refine wr_putI (ci := 12) (f := 5) (fs' := [_, _, _, _, _, _, _, _, _, _, _, _, _, _, _, _, _, _, _, _, _, _, _, _, _, _, _, _, _, _, _, _, _, _, _, _, _, _, _]) rfl rfl rfl (by assumption) rfl rfl rfl (fun h1 e1 => ?_)
      have w : FW h0 h1 (updI o 5 ((q : Int) + 1)) F A := by rw [e1]; exact w.setO (updI o 5 ((q : Int) + 1))
      clear e1
      obtain ⟨o2, w, s2, n2⟩ := fo_ex w
      refine wr_goto rfl rfl ?_
      have := ih (q + 1) o2 _ (by omega) w (t.keep (n2 _ (by decide)) rfl) (by rw [s2]; omega)
      rw [skp_step (by omega) c] at this
      refine this.mono (fun r h' k => ?_)
      obtain ⟨k1, o3, k2, k3, k4⟩ := k
      exact ⟨k1, o3, k2, k3, fun j hj => by rw [k4 j hj, n2 j hj]⟩
    ·
      rw [skp_stay c, sgA_at (by omega)]
      refine wr_aload_n rfl rfl rfl ?_
      refine wr_get (ci := 12) (f := 5) rfl rfl rfl (by assumption) rfl ?_
      rw [e5]
      refine wr_aload_n rfl rfl rfl ?_
      refine wr_get (ci := 12) (f := 4) rfl rfl rfl (by assumption) rfl ?_
      rw [e4]
      refine wr_icmp_ge rfl rfl rfl (by omega) (by omega) (fun c8 => by exfalso; omega) (fun c8 => ?_)
      refine wr_aload_n rfl rfl rfl ?_
      refine wr_get (ci := 12) (f := 3) rfl rfl rfl (by assumption) rfl ?_
      refine wr_aload_n rfl rfl rfl ?_
      refine wr_get (ci := 12) (f := 5) rfl rfl rfl (by assumption) rfl ?_
      rw [e5]
      refine wr_iald rfl rfl (by assumption) (by omega) (by omega) ?_
      rw [Int.toNat_natCast, tq]
      refine wr_bipush rfl rfl (by decide) ?_
      refine wr_icmp_ne rfl rfl rfl (by omega) (by omega) (fun c22 => ?_) (fun c22 => by exfalso; omega)
      refine wr_aload_n rfl rfl rfl ?_
      refine wr_get (ci := 12) (f := 5) rfl rfl rfl (by assumption) rfl ?_
      rw [e5]
      refine wr_aload_n rfl rfl rfl ?_
      refine wr_get (ci := 12) (f := 4) rfl rfl rfl (by assumption) rfl ?_
      rw [e4]
      refine wr_icmp_ge rfl rfl rfl (by omega) (by omega) (fun c46 => by exfalso; omega) (fun c46 => ?_)
      refine wr_aload_n rfl rfl rfl ?_
      refine wr_get (ci := 12) (f := 3) rfl rfl rfl (by assumption) rfl ?_
      refine wr_aload_n rfl rfl rfl ?_
      refine wr_get (ci := 12) (f := 5) rfl rfl rfl (by assumption) rfl ?_
      rw [e5]
      refine wr_iald rfl rfl (by assumption) (by omega) (by omega) ?_
      rw [Int.toNat_natCast, tq]
      refine wr_goto rfl rfl ?_
      refine wr_iret rfl rfl ?_
      exact ⟨rfl, o, w, e5, fun _ _ => rfl⟩
theorem rr_nextC {d q : Nat} (S : okS T n) (w : FW h0 h o F A) (t : RT T n o A) (e5 : o 5 = (q : Int)) (hq : q ≤ n) : am_c X (d + 1) 155 [.ref 164] h (fun r h' => r = some (.int (iI (sgA T n 0 (skp T n q)))) ∧ ∃ o', FW h0 h' o' F A ∧ o' 5 = (skp T n q : Nat) ∧ ∀ j, j ≠ 5 → o' j = o j) := by
  refine am_c.of (Nat.le_of_ble_eq_true rfl) ?_
  show am_w _ _ _ (_, [_], _, _) _
  exact rr_next S (n - q) q o h (by omega) w t e5
theorem sgA_IN (S : okS T n) (p : Nat) : 0 ≤ sgA T n 0 p ∧ sgA T n 0 p ≤ 126 ∧ (sgA T n 0 p ≠ 0 → p < n) ∧ (p < n → 32 ≤ sgA T n 0 p ∧ sgA T n 0 p = T p) := by
  unfold sgA
  split
  · rename_i c
    have := S.2 p c
    omega
  · omega
theorem rr_eat {d q : Nat} {c : Int} (S : okS T n) (w : FW h0 h o F A) (t : RT T n o A) (e5 : o 5 = (q : Int)) (hq : q ≤ n) (hc : 1 ≤ c ∧ c ≤ 126) : am_c X (d + 2) 156 [.ref 164, .int (iI c)] h (fun r h' => ∃ o', FW h0 h' o' F A ∧ (∀ j, j ≠ 5 → j ≠ 6 → o' j = o j) ∧ ((∃ q', pexp T n c q = .ok ((), q') ∧ r = some (.int (iI 1)) ∧ o' 5 = (q' : Int)) ∨ (∃ q', pexp T n c q = .error q' ∧ r = some (.int (iI 0)) ∧ o' 6 = (q' : Int)))) := by
  have cO := w.cO
  have sb := sgA_IN S (skp T n q)
  have kb := (skp_spec T n q).2.1 hq
  have n4 := S.1
  refine am_c.of (Nat.le_of_ble_eq_true rfl) ?_
  show am_w _ _ _ (_, [_, _, _], _, _) _
  refine wr_aload_n rfl rfl rfl ?_
  refine wr_cv0 (k' := 155) (ci := 12) rfl rfl rfl rfl (by assumption) rfl rfl (rr_nextC S w t e5 hq) (fun r h2 q => ?_)
  obtain ⟨rfl, o2, w, s2, n2⟩ := q
  have cO := w.cO
  unfold pexp
  by_cases e : sgA T n 0 (skp T n q) = c
  ·
    rw [if_pos e]
    refine wr_iload_n rfl rfl rfl ?_
    refine wr_icmp_ne rfl rfl rfl (by omega) (by omega) (fun c5 => by exfalso; omega) (fun c5 => ?_)
    refine wr_iconst rfl rfl ?_
    refine wr_goto rfl rfl ?_
    refine wr_istore_n (ls' := [_, _, _]) rfl rfl (Nat.le_of_ble_eq_true rfl) rfl ?_
    refine wr_aload_n rfl rfl rfl ?_
    refine wr_iload_n rfl rfl rfl ?_
    refine wr_if_eq rfl rfl rfl (by omega) (fun c16 => by exfalso; omega) (fun c16 => ?_)
    refine wr_aload_n rfl rfl rfl ?_
    refine wr_get (ci := 12) (f := 6) rfl rfl rfl (by assumption) rfl ?_
    refine wr_goto rfl rfl ?_
    refine wr_putI (ci := 12) (f := 6) (fs' := [_, _, _, _, _, _, _, _, _, _, _, _, _, _, _, _, _, _, _, _, _, _, _, _, _, _, _, _, _, _, _, _, _, _, _, _, _, _, _]) rfl rfl rfl (by assumption) rfl rfl rfl (fun h1 e1 => ?_)
    have w : FW h0 h1 (updI o2 6 (o2 6)) F A := by rw [e1]; exact w.setO (updI o2 6 (o2 6))
    clear e1
    obtain ⟨o3, w, s3, n3⟩ := fo_ex w
    have cO := w.cO
    have s3' : o3 5 = (skp T n q : Nat) := by rw [n3 _ (by decide), s2]
    refine wr_aload_n rfl rfl rfl ?_
    refine wr_dup rfl rfl ?_
    refine wr_get (ci := 12) (f := 5) rfl rfl rfl (by assumption) rfl ?_
    rw [s3']
    refine wr_iload_n rfl rfl rfl ?_
    refine wr_if_eq rfl rfl rfl (by omega) (fun c39 => by exfalso; omega) (fun c39 => ?_)
    refine wr_iconst rfl rfl ?_
    refine wr_goto rfl rfl ?_
    refine wr_iadd rfl rfl ?_
    refine wr_putI (ci := 12) (f := 5) (fs' := [_, _, _, _, _, _, _, _, _, _, _, _, _, _, _, _, _, _, _, _, _, _, _, _, _, _, _, _, _, _, _, _, _, _, _, _, _, _, _]) rfl rfl rfl (by assumption) rfl rfl rfl (fun h1 e1 => ?_)
    have w : FW h0 h1 (updI o3 5 (((skp T n q : Nat) : Int) + 1)) F A := by rw [e1]; exact w.setO (updI o3 5 (((skp T n q : Nat) : Int) + 1))
    clear e1
    obtain ⟨o4, w, s4, n4⟩ := fo_ex w
    refine wr_iload_n rfl rfl rfl ?_
    refine wr_zret rfl rfl (by decide) ?_
    exact ⟨o4, w, fun j a b => by rw [n4 j a, n3 j b, n2 j a], Or.inl ⟨_, rfl, rfl, by rw [s4]; omega⟩⟩
  ·
    rw [if_neg e]
    refine wr_iload_n rfl rfl rfl ?_
    refine wr_icmp_ne rfl rfl rfl (by omega) (by omega) (fun c5 => ?_) (fun c5 => by exfalso; omega)
    refine wr_iconst rfl rfl ?_
    refine wr_istore_n (ls' := [_, _, _]) rfl rfl (Nat.le_of_ble_eq_true rfl) rfl ?_
    refine wr_aload_n rfl rfl rfl ?_
    refine wr_iload_n rfl rfl rfl ?_
    refine wr_if_eq rfl rfl rfl (by omega) (fun c16 => ?_) (fun c16 => by exfalso; omega)
    refine wr_aload_n rfl rfl rfl ?_
    refine wr_get (ci := 12) (f := 5) rfl rfl rfl (by assumption) rfl ?_
    rw [s2]
    refine wr_putI (ci := 12) (f := 6) (fs' := [_, _, _, _, _, _, _, _, _, _, _, _, _, _, _, _, _, _, _, _, _, _, _, _, _, _, _, _, _, _, _, _, _, _, _, _, _, _, _]) rfl rfl rfl (by assumption) rfl rfl rfl (fun h1 e1 => ?_)
    have w : FW h0 h1 (updI o2 6 (skp T n q : Nat)) F A := by rw [e1]; exact w.setO (updI o2 6 (skp T n q : Nat))
    clear e1
    obtain ⟨o3, w, s3, n3⟩ := fo_ex w
    have cO := w.cO
    have s3' : o3 5 = (skp T n q : Nat) := by rw [n3 _ (by decide), s2]
    refine wr_aload_n rfl rfl rfl ?_
    refine wr_dup rfl rfl ?_
    refine wr_get (ci := 12) (f := 5) rfl rfl rfl (by assumption) rfl ?_
    rw [s3']
    refine wr_iload_n rfl rfl rfl ?_
    refine wr_if_eq rfl rfl rfl (by omega) (fun c39 => ?_) (fun c39 => by exfalso; omega)
    refine wr_iconst rfl rfl ?_
    refine wr_iadd rfl rfl ?_
    refine wr_putI (ci := 12) (f := 5) (fs' := [_, _, _, _, _, _, _, _, _, _, _, _, _, _, _, _, _, _, _, _, _, _, _, _, _, _, _, _, _, _, _, _, _, _, _, _, _, _, _]) rfl rfl rfl (by assumption) rfl rfl rfl (fun h1 e1 => ?_)
    have w : FW h0 h1 (updI o3 5 (((skp T n q : Nat) : Int) + 0)) F A := by rw [e1]; exact w.setO (updI o3 5 (((skp T n q : Nat) : Int) + 0))
    clear e1
    obtain ⟨o4, w, s4, n4⟩ := fo_ex w
    refine wr_iload_n rfl rfl rfl ?_
    refine wr_zret rfl rfl (by decide) ?_
    exact ⟨o4, w, fun j a b => by rw [n4 j a, n3 j b, n2 j a], Or.inr ⟨_, rfl, rfl, by rw [n4 _ (by decide), s3]⟩⟩
/-- what a reading of P leaves -/
def rdQ (h0 : am_H) (o : Nat → Int) (F : Nat → Rat) (A : Nat → Nat → Int) (n : Nat) (P : PR Int) : Option Value → am_H → Prop := fun r h' => ∃ o', FW h0 h' o' F A ∧ (∀ j, j ≠ 5 → j ≠ 6 → j ≠ 14 → o' j = o j) ∧ ((∃ (v : Int) (q' : Nat), P = .ok (v, q') ∧ q' ≤ n ∧ r = some (.int (iI 1)) ∧ o' 5 = (q' : Int) ∧ o' 14 = v) ∨ (∃ q', P = .error q' ∧ r = some (.int (iI 0)) ∧ o' 6 = (q' : Int)))
/-- behind the sign: blanks, then digits -/
theorem rr_num0 {d q : Nat} {mb mz b : Int} (S : okS T n) (w : FW h0 h o F A) (t : RT T n o A) (e5 : o 5 = (q : Int)) (hq : q ≤ n) (hz : mz = 0 ∨ mz = 1) (hb : b = 0 ∨ b = 1) : am_w X (d + 1) 159 (37, [.ref 164, .int (iI mb), .int (iI mz), .int (iI b), am_U, am_U, am_U, am_U, am_U], [], h) (rdQ h0 o F A n (match pnum T n (if mz = 1 then 0 else 1) q with | .error q => .error q | .ok (v, q) => .ok ((if b = 1 then -v else v), q))) := by
  have cO := w.cO
  have sb := sgA_IN S (skp T n q)
  have kb := (skp_spec T n q).2.1 hq
  have n4 := S.1
  refine wr_aload_n rfl rfl rfl ?_
  refine wr_cv0 (k' := 155) (ci := 12) rfl rfl rfl rfl (by assumption) rfl rfl (rr_nextC S w t e5 hq) (fun r h2 q => ?_)
  obtain ⟨rfl, o2, w, s2, n2⟩ := q
  have t2 := t.keep (n2 4 (by decide)) (rfl : A 168 = A 168)
  have cO := w.cO
  unfold pnum
  obtain ⟨s, es⟩ : ∃ s, s = skp T n q := ⟨_, rfl⟩
  rw [← es] at s2 sb kb ⊢
  have de := dgE_spec T n s
  have de2 := dgF_spec T (n - s) s
  have eE : dgE T n s = dgF T (n - s) s := rfl
  have bad : ∀ (o3 : Nat → Int) (h3 : am_H), badN T (if mz = 1 then 0 else 1) s (dgE T n s) = true → FW h0 h3 o3 F A → o3 6 = (s : Int) → (∀ j, j ≠ 5 → j ≠ 6 → j ≠ 14 → o3 j = o2 j) → rdQ h0 o F A n (match (if badN T (if mz = 1 then 0 else 1) s (dgE T n s) = true then (.error s : PR Int) else .ok ((nvF T (dgE T n s - s) s 0), (dgE T n s))) with | .error q => .error q | .ok (v, q) => .ok ((if b = 1 then -v else v), q)) (some (.int (iI 0))) h3 := by
    intro o3 h3 hbad w3 s3 n3
    rw [if_pos hbad]
    exact ⟨o3, w3, fun j a b c => by rw [n3 j a b c, n2 j a], Or.inr ⟨s, rfl, rfl, s3⟩⟩
  by_cases dg : 48 ≤ sgA T n 0 s ∧ sgA T n 0 s ≤ 57
  · have sn : s < n := sb.2.2.1 (by omega)
    have sT := (sb.2.2.2 sn).2
    have dg1 : s + 1 ≤ dgE T n s := by
      refine Decidable.byContradiction fun c => ?_
      have e0 : dgF T (n - s) s = s := by omega
      have := de2.2.2.2 (by omega)
      rw [e0] at this
      omega
    have L : ∀ (m k : Nat) (v : Int) (o3 : Nat → Int) (h3 : am_H), s + k + m = dgE T n s → (0 ≤ v ∧ v < 10000000) → (k ≤ 5 → v = nvF T k s 0) → FW h0 h3 o3 F A → o3 5 = ((s + k : Nat) : Int) → (∀ j, j ≠ 5 → o3 j = o2 j) → am_w X (d + 1) 159 (76, [.ref 164, .int (iI mb), .int (iI mz), .int (iI b), .int (iI (sgA T n 0 s)), .int (iI s), .long (lI v), am_U, am_U], [], h3) (rdQ h0 o F A n (match (if badN T (if mz = 1 then 0 else 1) s (dgE T n s) = true then (.error s : PR Int) else .ok ((nvF T (dgE T n s - s) s 0), (dgE T n s))) with | .error q => .error q | .ok (v, q) => .ok ((if b = 1 then -v else v), q))) := by
      intro m
      induction m with
      | zero =>
        intro k v o3 h3 hk vb hv w s3 n3
        have t3 := t2.keep (n3 4 (by decide)) (rfl : A 168 = A 168)
        have e4 := t3.1
        have cO := w.cO
        have len : dgE T n s - s = k := by omega
        have fin : am_w X (d + 1) 159 (165, [.ref 164, .int (iI mb), .int (iI mz), .int (iI b), .int (iI (sgA T n 0 s)), .int (iI s), .long (lI v), am_U, am_U], [], h3) (rdQ h0 o F A n (match (if badN T (if mz = 1 then 0 else 1) s (dgE T n s) = true then (.error s : PR Int) else .ok ((nvF T (dgE T n s - s) s 0), (dgE T n s))) with | .error q => .error q | .ok (v, q) => .ok ((if b = 1 then -v else v), q))) := by
          have B : badN T (if mz = 1 then 0 else 1) s (dgE T n s) = true → am_w X (d + 1) 159 (204, [.ref 164, .int (iI mb), .int (iI mz), .int (iI b), .int (iI (sgA T n 0 s)), .int (iI s), .long (lI v), am_U, .int (iI k)], [], h3) (rdQ h0 o F A n (match (if badN T (if mz = 1 then 0 else 1) s (dgE T n s) = true then (.error s : PR Int) else .ok ((nvF T (dgE T n s - s) s 0), (dgE T n s))) with | .error q => .error q | .ok (v, q) => .ok ((if b = 1 then -v else v), q))) := by
            intro hbad
            refine wr_aload_n rfl rfl rfl ?_
            refine wr_iload rfl rfl rfl ?_
            refine wr_putI (ci := 12) (f := 6) (fs' := [_, _, _, _, _, _, _, _, _, _, _, _, _, _, _, _, _, _, _, _, _, _, _, _, _, _, _, _, _, _, _, _, _, _, _, _, _, _, _]) rfl rfl rfl (by assumption) rfl rfl rfl (fun h1 e1 => ?_)
            have w : FW h0 h1 (updI o3 6 (s : Int)) F A := by rw [e1]; exact w.setO (updI o3 6 (s : Int))
            clear e1
            obtain ⟨o4, w, s4, n4⟩ := fo_ex w
            refine wr_iconst rfl rfl ?_
            refine wr_zret rfl rfl (by decide) ?_
            exact bad o4 _ hbad w s4 (fun j a b c => by rw [n4 j b, n3 j a])
          have bd : ∀ p : Prop, p → (p → ((dgE T n s < s + 1 ∨ s + 5 < dgE T n s ∨ (s + 1 < dgE T n s ∧ T s = 48)) ∨ nvF T (dgE T n s - s) s 0 < (if mz = 1 then 0 else 1))) → badN T (if mz = 1 then 0 else 1) s (dgE T n s) = true := fun p hp k => by unfold badN; exact decide_eq_true (k hp)
          by_cases c5 : 5 < k
          ·
            refine wr_aload_n rfl rfl rfl ?_
            refine wr_get (ci := 12) (f := 5) rfl rfl rfl (by assumption) rfl ?_
            rw [s3]
            refine wr_iload rfl rfl rfl ?_
            refine wr_isub rfl rfl ?_
            rw [show ((s + k : Nat) : Int) - (s : Int) = (k : Int) by omega]
            refine wr_istore (ls' := [_, _, _, _, _, _, _, _, _]) rfl rfl (Nat.le_of_ble_eq_true rfl) rfl ?_
            refine wr_iload rfl rfl rfl ?_
            refine wr_iconst rfl rfl ?_
            refine wr_icmp_gt rfl rfl rfl (by omega) (by omega) (fun c177 => ?_) (fun c177 => by exfalso; omega)
            exact B (bd _ c5 (fun _ => Or.inl (Or.inr (Or.inl (by omega)))))
          have hv := hv (by omega)
          by_cases c0 : sgA T n 0 s = 48 ∧ 1 < k
          ·
            refine wr_aload_n rfl rfl rfl ?_
            refine wr_get (ci := 12) (f := 5) rfl rfl rfl (by assumption) rfl ?_
            rw [s3]
            refine wr_iload rfl rfl rfl ?_
            refine wr_isub rfl rfl ?_
            rw [show ((s + k : Nat) : Int) - (s : Int) = (k : Int) by omega]
            refine wr_istore (ls' := [_, _, _, _, _, _, _, _, _]) rfl rfl (Nat.le_of_ble_eq_true rfl) rfl ?_
            refine wr_iload rfl rfl rfl ?_
            refine wr_iconst rfl rfl ?_
            refine wr_icmp_gt rfl rfl rfl (by omega) (by omega) (fun c177 => by exfalso; omega) (fun c177 => ?_)
            refine wr_iload rfl rfl rfl ?_
            refine wr_bipush rfl rfl (by decide) ?_
            refine wr_icmp_ne rfl rfl rfl (by omega) (by omega) (fun c184 => by exfalso; omega) (fun c184 => ?_)
            refine wr_iload rfl rfl rfl ?_
            refine wr_iconst rfl rfl ?_
            refine wr_icmp_gt rfl rfl rfl (by omega) (by omega) (fun c190 => ?_) (fun c190 => by exfalso; omega)
            exact B (bd _ c0 (fun q => Or.inl (Or.inr (Or.inr ⟨by omega, by omega⟩))))
          have J193 : am_w X (d + 1) 159 (193, [.ref 164, .int (iI mb), .int (iI mz), .int (iI b), .int (iI (sgA T n 0 s)), .int (iI s), .long (lI v), am_U, .int (iI k)], [], h3) (rdQ h0 o F A n (match (if badN T (if mz = 1 then 0 else 1) s (dgE T n s) = true then (.error s : PR Int) else .ok ((nvF T (dgE T n s - s) s 0), (dgE T n s))) with | .error q => .error q | .ok (v, q) => .ok ((if b = 1 then -v else v), q))) := by
            have J212 : ¬ (v = 0 ∧ mz = 0) → am_w X (d + 1) 159 (212, [.ref 164, .int (iI mb), .int (iI mz), .int (iI b), .int (iI (sgA T n 0 s)), .int (iI s), .long (lI v), am_U, .int (iI k)], [], h3) (rdQ h0 o F A n (match (if badN T (if mz = 1 then 0 else 1) s (dgE T n s) = true then (.error s : PR Int) else .ok ((nvF T (dgE T n s - s) s 0), (dgE T n s))) with | .error q => .error q | .ok (v, q) => .ok ((if b = 1 then -v else v), q))) := by
              intro ok
              have ng : ¬ badN T (if mz = 1 then 0 else 1) s (dgE T n s) = true := by
                unfold badN
                rw [decide_eq_true_iff, len, ← hv]
                rcases hz with z | z
                · rw [if_neg (by omega)]; omega
                · rw [if_pos z]; omega
              rw [if_neg ng, len, ← hv]
              show am_w _ _ _ _ (rdQ h0 o F A n (.ok ((if b = 1 then -v else v), dgE T n s)))
              rcases hb with z | z
              ·
                rw [show (if b = 1 then -v else v) = v by rw [if_neg (by omega)]]
                refine wr_aload_n rfl rfl rfl ?_
                refine wr_iload_n rfl rfl rfl ?_
                refine wr_if_eq rfl rfl rfl (by omega) (fun c214 => ?_) (fun c214 => by exfalso; omega)
                refine wr_lload rfl rfl rfl ?_
                refine wr_l2i rfl rfl ?_
                refine wr_putI (ci := 12) (f := 14) (fs' := [_, _, _, _, _, _, _, _, _, _, _, _, _, _, _, _, _, _, _, _, _, _, _, _, _, _, _, _, _, _, _, _, _, _, _, _, _, _, _]) rfl rfl rfl (by assumption) rfl rfl rfl (fun h1 e1 => ?_)
                have w : FW h0 h1 (updI o3 14 v) F A := by rw [e1]; exact w.setO (updI o3 14 v)
                clear e1
                obtain ⟨o4, w, s4, n4⟩ := fo_ex w
                refine wr_iconst rfl rfl ?_
                refine wr_zret rfl rfl (by decide) ?_
                exact ⟨o4, w, fun j a b c => by rw [n4 j c, n3 j a, n2 j a], Or.inl ⟨v, _, rfl, de.2.1 (by omega), rfl, by rw [n4 _ (by decide), s3]; omega, s4⟩⟩
              ·
                rw [show (if b = 1 then -v else v) = -v by rw [if_pos z]]
                refine wr_aload_n rfl rfl rfl ?_
                refine wr_iload_n rfl rfl rfl ?_
                refine wr_if_eq rfl rfl rfl (by omega) (fun c214 => by exfalso; omega) (fun c214 => ?_)
                refine wr_lload rfl rfl rfl ?_
                refine wr_lneg rfl rfl ?_
                refine wr_goto rfl rfl ?_
                refine wr_l2i rfl rfl ?_
                refine wr_putI (ci := 12) (f := 14) (fs' := [_, _, _, _, _, _, _, _, _, _, _, _, _, _, _, _, _, _, _, _, _, _, _, _, _, _, _, _, _, _, _, _, _, _, _, _, _, _, _]) rfl rfl rfl (by assumption) rfl rfl rfl (fun h1 e1 => ?_)
                have w : FW h0 h1 (updI o3 14 (-v)) F A := by rw [e1]; exact w.setO (updI o3 14 (-v))
                clear e1
                obtain ⟨o4, w, s4, n4⟩ := fo_ex w
                refine wr_iconst rfl rfl ?_
                refine wr_zret rfl rfl (by decide) ?_
                exact ⟨o4, w, fun j a b c => by rw [n4 j c, n3 j a, n2 j a], Or.inl ⟨-v, _, rfl, de.2.1 (by omega), rfl, by rw [n4 _ (by decide), s3]; omega, s4⟩⟩
            by_cases v0 : v = 0
            · by_cases m0 : mz = 0
              ·
                refine wr_lload rfl rfl rfl ?_
                refine wr_lconst (z := 0) rfl rfl rfl ?_
                refine wr_l_ne rfl rfl rfl rfl rfl (by omega) (by omega) (fun c196 => by exfalso; omega) (fun c196 => ?_)
                refine wr_iload_n rfl rfl rfl ?_
                refine wr_if_ne rfl rfl rfl (by omega) (fun c201 => by exfalso; omega) (fun c201 => ?_)
                exact B (bd _ v0 (fun q => Or.inr (by rw [len, ← hv, if_neg (by omega)]; omega)))
              ·
                refine wr_lload rfl rfl rfl ?_
                refine wr_lconst (z := 0) rfl rfl rfl ?_
                refine wr_l_ne rfl rfl rfl rfl rfl (by omega) (by omega) (fun c196 => by exfalso; omega) (fun c196 => ?_)
                refine wr_iload_n rfl rfl rfl ?_
                refine wr_if_ne rfl rfl rfl (by omega) (fun c201 => ?_) (fun c201 => by exfalso; omega)
                exact J212 (by omega)
            ·
              refine wr_lload rfl rfl rfl ?_
              refine wr_lconst (z := 0) rfl rfl rfl ?_
              refine wr_l_ne rfl rfl rfl rfl rfl (by omega) (by omega) (fun c196 => ?_) (fun c196 => by exfalso; omega)
              exact J212 (by omega)
          by_cases e48 : sgA T n 0 s = 48
          ·
            refine wr_aload_n rfl rfl rfl ?_
            refine wr_get (ci := 12) (f := 5) rfl rfl rfl (by assumption) rfl ?_
            rw [s3]
            refine wr_iload rfl rfl rfl ?_
            refine wr_isub rfl rfl ?_
            rw [show ((s + k : Nat) : Int) - (s : Int) = (k : Int) by omega]
            refine wr_istore (ls' := [_, _, _, _, _, _, _, _, _]) rfl rfl (Nat.le_of_ble_eq_true rfl) rfl ?_
            refine wr_iload rfl rfl rfl ?_
            refine wr_iconst rfl rfl ?_
            refine wr_icmp_gt rfl rfl rfl (by omega) (by omega) (fun c177 => by exfalso; omega) (fun c177 => ?_)
            refine wr_iload rfl rfl rfl ?_
            refine wr_bipush rfl rfl (by decide) ?_
            refine wr_icmp_ne rfl rfl rfl (by omega) (by omega) (fun c184 => by exfalso; omega) (fun c184 => ?_)
            refine wr_iload rfl rfl rfl ?_
            refine wr_iconst rfl rfl ?_
            refine wr_icmp_gt rfl rfl rfl (by omega) (by omega) (fun c190 => by exfalso; omega) (fun c190 => ?_)
            exact J193
          ·
            refine wr_aload_n rfl rfl rfl ?_
            refine wr_get (ci := 12) (f := 5) rfl rfl rfl (by assumption) rfl ?_
            rw [s3]
            refine wr_iload rfl rfl rfl ?_
            refine wr_isub rfl rfl ?_
            rw [show ((s + k : Nat) : Int) - (s : Int) = (k : Int) by omega]
            refine wr_istore (ls' := [_, _, _, _, _, _, _, _, _]) rfl rfl (Nat.le_of_ble_eq_true rfl) rfl ?_
            refine wr_iload rfl rfl rfl ?_
            refine wr_iconst rfl rfl ?_
            refine wr_icmp_gt rfl rfl rfl (by omega) (by omega) (fun c177 => by exfalso; omega) (fun c177 => ?_)
            refine wr_iload rfl rfl rfl ?_
            refine wr_bipush rfl rfl (by decide) ?_
            refine wr_icmp_ne rfl rfl rfl (by omega) (by omega) (fun c184 => ?_) (fun c184 => by exfalso; omega)
            exact J193
        by_cases en : n ≤ s + k
        ·
          refine wr_aload_n rfl rfl rfl ?_
          refine wr_get (ci := 12) (f := 5) rfl rfl rfl (by assumption) rfl ?_
          rw [s3]
          refine wr_aload_n rfl rfl rfl ?_
          refine wr_get (ci := 12) (f := 4) rfl rfl rfl (by assumption) rfl ?_
          rw [e4]
          refine wr_icmp_ge rfl rfl rfl (by omega) (by omega) (fun c84 => ?_) (fun c84 => by exfalso; omega)
          exact fin
        · have cT := w.arr (p := 168) (n := 400) (by decide) (by decide)
          have tq := t3.2 (s + k) (by omega)
          have bq := S.2 (s + k) (by omega)
          have nd := de2.2.2.2 (by omega)
          rw [← eE, show dgE T n s = s + k by omega] at nd
          by_cases lo : T (s + k) < 48
          ·
            refine wr_aload_n rfl rfl rfl ?_
            refine wr_get (ci := 12) (f := 5) rfl rfl rfl (by assumption) rfl ?_
            rw [s3]
            refine wr_aload_n rfl rfl rfl ?_
            refine wr_get (ci := 12) (f := 4) rfl rfl rfl (by assumption) rfl ?_
            rw [e4]
            refine wr_icmp_ge rfl rfl rfl (by omega) (by omega) (fun c84 => by exfalso; omega) (fun c84 => ?_)
            refine wr_aload_n rfl rfl rfl ?_
            refine wr_get (ci := 12) (f := 3) rfl rfl rfl (by assumption) rfl ?_
            refine wr_aload_n rfl rfl rfl ?_
            refine wr_get (ci := 12) (f := 5) rfl rfl rfl (by assumption) rfl ?_
            rw [s3]
            refine wr_iald rfl rfl (by assumption) (by omega) (by omega) ?_
            rw [Int.toNat_natCast, tq]
            refine wr_bipush rfl rfl (by decide) ?_
            refine wr_icmp_lt rfl rfl rfl (by omega) (by omega) (fun c98 => ?_) (fun c98 => by exfalso; omega)
            exact fin
          ·
            refine wr_aload_n rfl rfl rfl ?_
            refine wr_get (ci := 12) (f := 5) rfl rfl rfl (by assumption) rfl ?_
            rw [s3]
            refine wr_aload_n rfl rfl rfl ?_
            refine wr_get (ci := 12) (f := 4) rfl rfl rfl (by assumption) rfl ?_
            rw [e4]
            refine wr_icmp_ge rfl rfl rfl (by omega) (by omega) (fun c84 => by exfalso; omega) (fun c84 => ?_)
            refine wr_aload_n rfl rfl rfl ?_
            refine wr_get (ci := 12) (f := 3) rfl rfl rfl (by assumption) rfl ?_
            refine wr_aload_n rfl rfl rfl ?_
            refine wr_get (ci := 12) (f := 5) rfl rfl rfl (by assumption) rfl ?_
            rw [s3]
            refine wr_iald rfl rfl (by assumption) (by omega) (by omega) ?_
            rw [Int.toNat_natCast, tq]
            refine wr_bipush rfl rfl (by decide) ?_
            refine wr_icmp_lt rfl rfl rfl (by omega) (by omega) (fun c98 => by exfalso; omega) (fun c98 => ?_)
            refine wr_aload_n rfl rfl rfl ?_
            refine wr_get (ci := 12) (f := 3) rfl rfl rfl (by assumption) rfl ?_
            refine wr_aload_n rfl rfl rfl ?_
            refine wr_get (ci := 12) (f := 5) rfl rfl rfl (by assumption) rfl ?_
            rw [s3]
            refine wr_iald rfl rfl (by assumption) (by omega) (by omega) ?_
            rw [Int.toNat_natCast, tq]
            refine wr_bipush rfl rfl (by decide) ?_
            refine wr_icmp_gt rfl rfl rfl (by omega) (by omega) (fun c112 => ?_) (fun c112 => by exfalso; omega)
            exact fin
      | succ m ih =>
        intro k v o3 h3 hk vb hv w s3 n3
        have t3 := t2.keep (n3 4 (by decide)) (rfl : A 168 = A 168)
        have e4 := t3.1
        have cO := w.cO
        have en := de.2.1 (by omega)
        have cT := w.arr (p := 168) (n := 400) (by decide) (by decide)
        have tq := t3.2 (s + k) (by omega)
        have bq := de.2.2 (s + k) (by omega) (by omega)
        have J : ∀ v1 : Int, (0 ≤ v1 ∧ v1 < 10000000) → (k + 1 ≤ 5 → v1 = nvF T (k + 1) s 0) → am_w X (d + 1) 159 (150, [.ref 164, .int (iI mb), .int (iI mz), .int (iI b), .int (iI (sgA T n 0 s)), .int (iI s), .long (lI v), am_U, am_U], [.long (lI v1)], h3) (rdQ h0 o F A n (match (if badN T (if mz = 1 then 0 else 1) s (dgE T n s) = true then (.error s : PR Int) else .ok ((nvF T (dgE T n s - s) s 0), (dgE T n s))) with | .error q => .error q | .ok (v, q) => .ok ((if b = 1 then -v else v), q))) := by
          intro v1 vb1 hv1
          refine wr_lstore (ls' := [_, _, _, _, _, _, _, _, _]) rfl rfl (Nat.le_of_ble_eq_true rfl) rfl ?_
          refine wr_aload_n rfl rfl rfl ?_
          refine wr_dup rfl rfl ?_
          refine wr_get (ci := 12) (f := 5) rfl rfl rfl (by assumption) rfl ?_
          rw [s3]
          refine wr_iconst rfl rfl ?_
          refine wr_iadd rfl rfl ?_
          refine wr_putI (ci := 12) (f := 5) (fs' := [_, _, _, _, _, _, _, _, _, _, _, _, _, _, _, _, _, _, _, _, _, _, _, _, _, _, _, _, _, _, _, _, _, _, _, _, _, _, _]) rfl rfl rfl (by assumption) rfl rfl rfl (fun h1 e1 => ?_)
          have w : FW h0 h1 (updI o3 5 (((s + k : Nat) : Int) + 1)) F A := by rw [e1]; exact w.setO (updI o3 5 (((s + k : Nat) : Int) + 1))
          clear e1
          obtain ⟨o4, w, s4, n4⟩ := fo_ex w
          refine wr_goto rfl rfl ?_
          exact ih (k + 1) v1 o4 _ (by omega) vb1 hv1 w (by rw [s4]; omega) (fun j a => by rw [n4 j a, n3 j a])
        by_cases sm : v < 1000000
        ·
          refine wr_aload_n rfl rfl rfl ?_
          refine wr_get (ci := 12) (f := 5) rfl rfl rfl (by assumption) rfl ?_
          rw [s3]
          refine wr_aload_n rfl rfl rfl ?_
          refine wr_get (ci := 12) (f := 4) rfl rfl rfl (by assumption) rfl ?_
          rw [e4]
          refine wr_icmp_ge rfl rfl rfl (by omega) (by omega) (fun c84 => by exfalso; omega) (fun c84 => ?_)
          refine wr_aload_n rfl rfl rfl ?_
          refine wr_get (ci := 12) (f := 3) rfl rfl rfl (by assumption) rfl ?_
          refine wr_aload_n rfl rfl rfl ?_
          refine wr_get (ci := 12) (f := 5) rfl rfl rfl (by assumption) rfl ?_
          rw [s3]
          refine wr_iald rfl rfl (by assumption) (by omega) (by omega) ?_
          rw [Int.toNat_natCast, tq]
          refine wr_bipush rfl rfl (by decide) ?_
          refine wr_icmp_lt rfl rfl rfl (by omega) (by omega) (fun c98 => by exfalso; omega) (fun c98 => ?_)
          refine wr_aload_n rfl rfl rfl ?_
          refine wr_get (ci := 12) (f := 3) rfl rfl rfl (by assumption) rfl ?_
          refine wr_aload_n rfl rfl rfl ?_
          refine wr_get (ci := 12) (f := 5) rfl rfl rfl (by assumption) rfl ?_
          rw [s3]
          refine wr_iald rfl rfl (by assumption) (by omega) (by omega) ?_
          rw [Int.toNat_natCast, tq]
          refine wr_bipush rfl rfl (by decide) ?_
          refine wr_icmp_gt rfl rfl rfl (by omega) (by omega) (fun c112 => by exfalso; omega) (fun c112 => ?_)
          refine wr_lload rfl rfl rfl ?_
          refine wr_ldc2 (z := 1000000) rfl rfl rfl (by decide) ?_
          refine wr_l_ge rfl rfl rfl rfl rfl (by omega) (by omega) (fun c120 => by exfalso; omega) (fun c120 => ?_)
          refine wr_ldc2 (z := 10) rfl rfl rfl (by decide) ?_
          refine wr_lload rfl rfl rfl ?_
          refine wr_lmul rfl rfl ?_
          refine wr_aload_n rfl rfl rfl ?_
          refine wr_get (ci := 12) (f := 3) rfl rfl rfl (by assumption) rfl ?_
          refine wr_aload_n rfl rfl rfl ?_
          refine wr_get (ci := 12) (f := 5) rfl rfl rfl (by assumption) rfl ?_
          rw [s3]
          refine wr_iald rfl rfl (by assumption) (by omega) (by omega) ?_
          rw [Int.toNat_natCast, tq]
          refine wr_i2l rfl rfl (by omega) ?_
          refine wr_ladd rfl rfl ?_
          refine wr_ldc2 (z := 48) rfl rfl rfl (by decide) ?_
          refine wr_lsub rfl rfl ?_
          refine wr_goto rfl rfl ?_
          exact J _ (by omega) (fun q => by rw [nvF_snoc, ← hv (by omega)]; omega)
        ·
          refine wr_aload_n rfl rfl rfl ?_
          refine wr_get (ci := 12) (f := 5) rfl rfl rfl (by assumption) rfl ?_
          rw [s3]
          refine wr_aload_n rfl rfl rfl ?_
          refine wr_get (ci := 12) (f := 4) rfl rfl rfl (by assumption) rfl ?_
          rw [e4]
          refine wr_icmp_ge rfl rfl rfl (by omega) (by omega) (fun c84 => by exfalso; omega) (fun c84 => ?_)
          refine wr_aload_n rfl rfl rfl ?_
          refine wr_get (ci := 12) (f := 3) rfl rfl rfl (by assumption) rfl ?_
          refine wr_aload_n rfl rfl rfl ?_
          refine wr_get (ci := 12) (f := 5) rfl rfl rfl (by assumption) rfl ?_
          rw [s3]
          refine wr_iald rfl rfl (by assumption) (by omega) (by omega) ?_
          rw [Int.toNat_natCast, tq]
          refine wr_bipush rfl rfl (by decide) ?_
          refine wr_icmp_lt rfl rfl rfl (by omega) (by omega) (fun c98 => by exfalso; omega) (fun c98 => ?_)
          refine wr_aload_n rfl rfl rfl ?_
          refine wr_get (ci := 12) (f := 3) rfl rfl rfl (by assumption) rfl ?_
          refine wr_aload_n rfl rfl rfl ?_
          refine wr_get (ci := 12) (f := 5) rfl rfl rfl (by assumption) rfl ?_
          rw [s3]
          refine wr_iald rfl rfl (by assumption) (by omega) (by omega) ?_
          rw [Int.toNat_natCast, tq]
          refine wr_bipush rfl rfl (by decide) ?_
          refine wr_icmp_gt rfl rfl rfl (by omega) (by omega) (fun c112 => by exfalso; omega) (fun c112 => ?_)
          refine wr_lload rfl rfl rfl ?_
          refine wr_ldc2 (z := 1000000) rfl rfl rfl (by decide) ?_
          refine wr_l_ge rfl rfl rfl rfl rfl (by omega) (by omega) (fun c120 => ?_) (fun c120 => by exfalso; omega)
          refine wr_lload rfl rfl rfl ?_
          refine J v vb (fun q => ?_)
          have a1 := hv (by omega)
          have a2 := nvF_in T s k (fun j x y => de.2.2 j x (by omega))
          have a3 : (10 : Int) ^ k ≤ 10 ^ 4 := by
            have := Nat.pow_le_pow_right (n := 10) (by decide) (show k ≤ 4 by omega)
            exact_mod_cast this
          rw [show (10 : Int) ^ 4 = 10000 by decide] at a3
          omega
    refine wr_istore (ls' := [_, _, _, _, _, _, _, _, _]) rfl rfl (Nat.le_of_ble_eq_true rfl) rfl ?_
    refine wr_aload_n rfl rfl rfl ?_
    refine wr_get (ci := 12) (f := 5) rfl rfl rfl (by assumption) rfl ?_
    rw [s2]
    refine wr_istore (ls' := [_, _, _, _, _, _, _, _, _]) rfl rfl (Nat.le_of_ble_eq_true rfl) rfl ?_
    refine wr_iload rfl rfl rfl ?_
    refine wr_bipush rfl rfl (by decide) ?_
    refine wr_icmp_lt rfl rfl rfl (by omega) (by omega) (fun c53 => by exfalso; omega) (fun c53 => ?_)
    refine wr_iload rfl rfl rfl ?_
    refine wr_bipush rfl rfl (by decide) ?_
    refine wr_icmp_le rfl rfl rfl (by omega) (by omega) (fun c60 => ?_) (fun c60 => by exfalso; omega)
    refine wr_lconst (z := 0) rfl rfl rfl ?_
    refine wr_lstore (ls' := [_, _, _, _, _, _, _, _, _]) rfl rfl (Nat.le_of_ble_eq_true rfl) rfl ?_
    exact L (dgE T n s - s) 0 0 o2 _ (by omega) (by decide) (fun _ => rfl) w (by rw [s2]; rfl) (fun _ _ => rfl)
  · have e0 : badN T (if mz = 1 then 0 else 1) s (dgE T n s) = true := by
      unfold badN
      refine decide_eq_true (Or.inl (Or.inl ?_))
      refine Decidable.byContradiction fun c => ?_
      have x1 := de.2.2 s (by omega) (by omega)
      have x2 := de.2.1 (by omega)
      have x3 := sb.2.2.2 (by omega)
      omega
    have J : am_w X (d + 1) 159 (63, [.ref 164, .int (iI mb), .int (iI mz), .int (iI b), .int (iI (sgA T n 0 s)), .int (iI s), am_U, am_U, am_U], [], h2) (rdQ h0 o F A n (match (if badN T (if mz = 1 then 0 else 1) s (dgE T n s) = true then (.error s : PR Int) else .ok ((nvF T (dgE T n s - s) s 0), (dgE T n s))) with | .error q => .error q | .ok (v, q) => .ok ((if b = 1 then -v else v), q))) := by
      refine wr_aload_n rfl rfl rfl ?_
      refine wr_aload_n rfl rfl rfl ?_
      refine wr_get (ci := 12) (f := 5) rfl rfl rfl (by assumption) rfl ?_
      rw [s2]
      refine wr_putI (ci := 12) (f := 6) (fs' := [_, _, _, _, _, _, _, _, _, _, _, _, _, _, _, _, _, _, _, _, _, _, _, _, _, _, _, _, _, _, _, _, _, _, _, _, _, _, _]) rfl rfl rfl (by assumption) rfl rfl rfl (fun h1 e1 => ?_)
      have w : FW h0 h1 (updI o2 6 (s : Int)) F A := by rw [e1]; exact w.setO (updI o2 6 (s : Int))
      clear e1
      obtain ⟨o4, w, s4, n4⟩ := fo_ex w
      refine wr_iconst rfl rfl ?_
      refine wr_zret rfl rfl (by decide) ?_
      exact bad o4 _ e0 w s4 (fun j a b c => n4 j b)
    by_cases lo : sgA T n 0 s < 48
    ·
      refine wr_istore (ls' := [_, _, _, _, _, _, _, _, _]) rfl rfl (Nat.le_of_ble_eq_true rfl) rfl ?_
      refine wr_aload_n rfl rfl rfl ?_
      refine wr_get (ci := 12) (f := 5) rfl rfl rfl (by assumption) rfl ?_
      rw [s2]
      refine wr_istore (ls' := [_, _, _, _, _, _, _, _, _]) rfl rfl (Nat.le_of_ble_eq_true rfl) rfl ?_
      refine wr_iload rfl rfl rfl ?_
      refine wr_bipush rfl rfl (by decide) ?_
      refine wr_icmp_lt rfl rfl rfl (by omega) (by omega) (fun c53 => ?_) (fun c53 => by exfalso; omega)
      exact J
    ·
      refine wr_istore (ls' := [_, _, _, _, _, _, _, _, _]) rfl rfl (Nat.le_of_ble_eq_true rfl) rfl ?_
      refine wr_aload_n rfl rfl rfl ?_
      refine wr_get (ci := 12) (f := 5) rfl rfl rfl (by assumption) rfl ?_
      rw [s2]
      refine wr_istore (ls' := [_, _, _, _, _, _, _, _, _]) rfl rfl (Nat.le_of_ble_eq_true rfl) rfl ?_
      refine wr_iload rfl rfl rfl ?_
      refine wr_bipush rfl rfl (by decide) ?_
      refine wr_icmp_lt rfl rfl rfl (by omega) (by omega) (fun c53 => by exfalso; omega) (fun c53 => ?_)
      refine wr_iload rfl rfl rfl ?_
      refine wr_bipush rfl rfl (by decide) ?_
      refine wr_icmp_le rfl rfl rfl (by omega) (by omega) (fun c60 => by exfalso; omega) (fun c60 => ?_)
      exact J
end RRE
