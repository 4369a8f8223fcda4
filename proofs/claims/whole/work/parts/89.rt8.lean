/-! THE REFERENCE'S LEVEL -/
section RTI
variable {X : Nat × (Nat → Int32)} {h0 h h' : am_H} {o o' : Nat → Int} {A A' : Nat → Nat → Int} {F F0 F' : Nat → Rat} {z : PS}
/-- between two corners -/
theorem rr_levM {d : Nat} {off part best : Int} {y : Value} (V : VS z) (w1 : z.wk = 1) (h0i : z.L.hi 0 = z.R.hi 0) (kU : ∀ i, i < z.L.N + 1 + z.R.N → F0 i = zU z i ∧ F0 (26 + i) = zY z i) (hp : -2147483648 ≤ part ∧ part ≤ 2147483647) (f94 : F0 94 = (off : Rat)) (q94 : qB 3 ((off : Int) : Rat)) (lo : zU z 0 < (off : Rat)) (up : (off : Rat) < zU z (z.L.N + z.R.N)) (no : ∀ i, i < z.L.N + 1 + z.R.N → zU z i ≠ (off : Rat)) (w : FW h0 h o F0 A) : am_w X (d + 7) 203 (149, [.ref 164, .int (iI off), .int (iI part), .int (iI best), .int (iI ((z.L.N + 1 + z.R.N : Nat) : Int)), y], [], h) (fun r h' => r = some (.long (lI (levP z off part))) ∧ ∃ F', FW h0 h' o F' A ∧ ∀ g, g < 94 → F' g = F0 g) := by
  obtain ⟨ok, H1, H2⟩ := V.sec w1
  have SC := sc_H ok H1 H2 h0i
  have NL := H1.ok.1
  have NR := H2.ok.1
  have cO := w.cO
  have L : ∀ (m k : Nat) (h : am_H), k + m = z.L.N + z.R.N → FW h0 h o F0 A → zU z k < (off : Rat) → am_w X (d + 7) 203 (152, [.ref 164, .int (iI off), .int (iI part), .int (iI best), .int (iI k), y], [], h) (fun r h' => r = some (.long (lI (levP z off part))) ∧ ∃ F', FW h0 h' o F' A ∧ ∀ g, g < 94 → F' g = F0 g) := by
    intro m
    induction m with
    | zero =>
      intro k h hk w l
      have : k = z.L.N + z.R.N := by omega
      subst this
      grind
    | succ m ih =>
      intro k h hk w l
      have cO := w.cO
      have e0 : (0 : Int) + (k : Int) = (k : Int) := by omega
      have e1k : (k : Int) + 1 = ((k + 1 : Nat) : Int) := by omega
      have v := kU (k + 1) (by omega)
      have qk := SC.1 k (by omega)
      have qk1 := SC.1 (k + 1) (by omega)
      refine wr_aload_n rfl rfl rfl ?_
      refine wr_iconst rfl rfl ?_
      refine wr_iload rfl rfl rfl ?_
      refine wr_iadd rfl rfl ?_
      rw [e0]
      refine wr_iconst rfl rfl ?_
      refine wr_iadd rfl rfl ?_
      rw [e1k]
      refine wr_bipush rfl rfl (by decide) ?_
      refine wr_cv2 (k' := 186) (ci := 12) rfl rfl rfl rfl (by assumption) rfl rfl (fw_compare (a := k + 1) (b := 94) (P := 3) (R := 3) w (by omega) (by decide) (by rw [v.1]; exact qk1.1) (by rw [f94]; exact q94) (by decide)) (fun r h2 q => ?_)
      obtain ⟨⟨c, rfl, cr, cl, -⟩, w⟩ := q
      rw [v.1, f94] at cl
      have cO := w.cO
      by_cases lt : zU z (k + 1) < (off : Rat)
      · have c0 := cl.mpr lt
        refine wr_if_ge rfl rfl rfl (by omega) (fun c164 => by exfalso; omega) (fun c164 => ?_)
        refine wr_iinc (ls' := [_, _, _, _, _, _]) rfl rfl rfl rfl ?_
        refine wr_goto rfl rfl ?_
        exact ih (k + 1) _ (by omega) w lt
      · have c0 : ¬ c < 0 := fun q => lt (cl.mp q)
        have gt : (off : Rat) < zU z (k + 1) := by
          have := no (k + 1) (by omega)
          grind
        have lm := lev_mid (part := part) w1 H1 H2 h0i (by omega) l gt
        have v0 := kU k (by omega)
        refine wr_if_ge rfl rfl rfl (by omega) (fun c164 => ?_) (fun c164 => by exfalso; omega)
        refine wr_aload_n rfl rfl rfl ?_
        refine wr_iload rfl rfl rfl ?_
        refine wr_bipush rfl rfl (by decide) ?_
        refine wr_bipush rfl rfl (by decide) ?_
        refine wr_cv3 (k' := 190) (ci := 12) rfl rfl rfl rfl (by assumption) rfl rfl (rr_sectionAt (d := d) (f := 94) (k := k) (to := 95) w (by omega) (by decide) (by decide) (by decide) v0.1 v.1 v0.2 (by rw [show 26 + k + 1 = 26 + (k + 1) by omega]; exact v.2) f94 qk.1 qk1.1 qk.2 qk1.2 q94 (by grind)) (fun r h2 q => ?_)
        obtain ⟨rfl, F2, w, s2, -, m2⟩ := q
        have cO := w.cO
        refine wr_aload_n rfl rfl rfl ?_
        refine wr_bipush rfl rfl (by decide) ?_
        refine wr_iload_n rfl rfl rfl ?_
        refine wr_cv2 (k' := 196) (ci := 12) rfl rfl rfl rfl (by assumption) rfl rfl (fw_tell w (by decide) hp) (fun r h2 q => ?_)
        obtain ⟨rfl, rfl⟩ := q
        refine wr_lret rfl rfl ?_
        exact ⟨by rw [s2, lm], F2, w, fun g hg => m2 g (by omega) (by omega) (by omega)⟩
  refine wr_iconst rfl rfl ?_
  refine wr_istore (ls' := [_, _, _, _, _, _]) rfl rfl (Nat.le_of_ble_eq_true rfl) rfl ?_
  exact L (z.L.N + z.R.N) 0 h (by omega) w lo
theorem rr_level1 {d : Nat} {off part : Int} (V : VS z) (w1 : z.wk = 1) (h0i : z.L.hi 0 = z.R.hi 0) (kU : ∀ i, i < z.L.N + 1 + z.R.N → F0 i = zU z i ∧ F0 (26 + i) = zY z i) (e23 : o 23 = ((z.L.N + 1 + z.R.N : Nat) : Int)) (e25 : o 25 = (z.L.N : Int)) (hp : -2147483648 ≤ part ∧ part ≤ 2147483647) (ho : -2147483648 ≤ off ∧ off ≤ 2147483647) (f94 : F0 94 = (off : Rat)) (q94 : qB 3 ((off : Int) : Rat)) (lo : ¬ (off : Rat) < zU z 0) (up : ¬ zU z (z.L.N + z.R.N) < (off : Rat)) (w : FW h0 h o F0 A) : am_w X (d + 7) 203 (53, [.ref 164, .int (iI off), .int (iI part), am_U, am_U, am_U], [], h) (fun r h' => r = some (.long (lI (levP z off part))) ∧ ∃ F', FW h0 h' o F' A ∧ ∀ g, g < 94 → F' g = F0 g) := by
  obtain ⟨ok, H1, H2⟩ := V.sec w1
  have SC := sc_H ok H1 H2 h0i
  have NL := H1.ok.1
  have NR := H2.ok.1
  have cO := w.cO
  have L : ∀ (m q : Nat) (best : Int) (h : am_H) (y : Value), q + m = z.L.N + 1 + z.R.N → FW h0 h o F0 A → ((best = -1 ∧ ∀ i, i < q → zU z i ≠ (off : Rat)) ∨ (∃ b : Nat, best = (b : Int) ∧ b < z.L.N + 1 + z.R.N ∧ zU z b = (off : Rat) ∧ ∀ i, i < q → zU z i = (off : Rat) → ((b : Int) - z.L.N).natAbs ≤ ((i : Int) - z.L.N).natAbs)) → am_w X (d + 7) 203 (58, [.ref 164, .int (iI off), .int (iI part), .int (iI best), .int (iI q), y], [], h) (fun r h' => r = some (.long (lI (levP z off part))) ∧ ∃ F', FW h0 h' o F' A ∧ ∀ g, g < 94 → F' g = F0 g) := by
    intro m
    induction m with
    | zero =>
      intro q best h y hq w B
      have cO := w.cO
      have eq : q = z.L.N + 1 + z.R.N := by omega
      subst eq
      rcases B with ⟨rfl, no⟩ | ⟨b, rfl, hb, eb, near⟩
      ·
        refine wr_iload rfl rfl rfl ?_
        refine wr_aload_n rfl rfl rfl ?_
        refine wr_get (ci := 12) (f := 23) rfl rfl rfl (by assumption) rfl ?_
        rw [e23]
        refine wr_icmp_ge rfl rfl rfl (by omega) (by omega) (fun c64 => ?_) (fun c64 => by exfalso; omega)
        refine wr_iload_n rfl rfl rfl ?_
        refine wr_if_lt rfl rfl rfl (by omega) (fun c136 => ?_) (fun c136 => by exfalso; omega)
        exact rr_levM V w1 h0i kU hp f94 q94 (by have := no 0 (by omega); grind) (by have := no (z.L.N + z.R.N) (by omega); grind) no w
      ·
        have e26 : (26 : Int) + (b : Int) = ((26 + b : Nat) : Int) := by omega
        have la := lev_at (part := part) w1 H1 H2 hb eb near
        refine wr_iload rfl rfl rfl ?_
        refine wr_aload_n rfl rfl rfl ?_
        refine wr_get (ci := 12) (f := 23) rfl rfl rfl (by assumption) rfl ?_
        rw [e23]
        refine wr_icmp_ge rfl rfl rfl (by omega) (by omega) (fun c64 => ?_) (fun c64 => by exfalso; omega)
        refine wr_iload_n rfl rfl rfl ?_
        refine wr_if_lt rfl rfl rfl (by omega) (fun c136 => by exfalso; omega) (fun c136 => ?_)
        refine wr_aload_n rfl rfl rfl ?_
        refine wr_bipush rfl rfl (by decide) ?_
        refine wr_iload_n rfl rfl rfl ?_
        refine wr_iadd rfl rfl ?_
        rw [e26]
        refine wr_iload_n rfl rfl rfl ?_
        refine wr_cv2 (k' := 196) (ci := 12) rfl rfl rfl rfl (by assumption) rfl rfl (fw_tell w (by omega) hp) (fun r h2 q => ?_)
        obtain ⟨rfl, rfl⟩ := q
        refine wr_lret rfl rfl ?_
        exact ⟨by rw [(kU b hb).2, la], F0, w, fun _ _ => rfl⟩
    | succ m ih =>
      intro q best h y hq w B
      have cO := w.cO
      have e0 : (0 : Int) + (q : Int) = (q : Int) := by omega
      have v := kU q (by omega)
      have qk := SC.1 q (by omega)
      have SKIP : ∀ (h : am_H) (y : Value), FW h0 h o F0 A → ((best = -1 ∧ ∀ i, i < q + 1 → zU z i ≠ (off : Rat)) ∨ (∃ b : Nat, best = (b : Int) ∧ b < z.L.N + 1 + z.R.N ∧ zU z b = (off : Rat) ∧ ∀ i, i < q + 1 → zU z i = (off : Rat) → ((b : Int) - z.L.N).natAbs ≤ ((i : Int) - z.L.N).natAbs)) → am_w X (d + 7) 203 (127, [.ref 164, .int (iI off), .int (iI part), .int (iI best), .int (iI q), y], [], h) (fun r h' => r = some (.long (lI (levP z off part))) ∧ ∃ F', FW h0 h' o F' A ∧ ∀ g, g < 94 → F' g = F0 g) := by
        intro h y w B
        have cO := w.cO
        refine wr_iload_n rfl rfl rfl ?_
        refine wr_istore_n (ls' := [_, _, _, _, _, _]) rfl rfl (Nat.le_of_ble_eq_true rfl) rfl ?_
        refine wr_iinc (ls' := [_, _, _, _, _, _]) rfl rfl rfl rfl ?_
        refine wr_goto rfl rfl ?_
        exact ih (q + 1) best h y (by omega) w B
      have TRY : ∀ (h : am_H), FW h0 h o F0 A → (zU z q ≠ (off : Rat) → ((best = -1 ∧ ∀ i, i < q + 1 → zU z i ≠ (off : Rat)) ∨ (∃ b : Nat, best = (b : Int) ∧ b < z.L.N + 1 + z.R.N ∧ zU z b = (off : Rat) ∧ ∀ i, i < q + 1 → zU z i = (off : Rat) → ((b : Int) - z.L.N).natAbs ≤ ((i : Int) - z.L.N).natAbs))) → (∀ i, i < q → zU z i = (off : Rat) → ((q : Int) - z.L.N).natAbs ≤ ((i : Int) - z.L.N).natAbs) → am_w X (d + 7) 203 (104, [.ref 164, .int (iI off), .int (iI part), .int (iI best), .int (iI q), .int (iI 1)], [], h) (fun r h' => r = some (.long (lI (levP z off part))) ∧ ∃ F', FW h0 h' o F' A ∧ ∀ g, g < 94 → F' g = F0 g) := by
        intro h w B near
        have cO := w.cO
        refine wr_iload rfl rfl rfl ?_
        refine wr_if_eq rfl rfl rfl (by omega) (fun c106 => by exfalso; omega) (fun c106 => ?_)
        refine wr_aload_n rfl rfl rfl ?_
        refine wr_iconst rfl rfl ?_
        refine wr_iload rfl rfl rfl ?_
        refine wr_iadd rfl rfl ?_
        rw [e0]
        refine wr_bipush rfl rfl (by decide) ?_
        refine wr_cv2 (k' := 186) (ci := 12) rfl rfl rfl rfl (by assumption) rfl rfl (fw_compare (a := q) (b := 94) (P := 3) (R := 3) w (by omega) (by decide) (by rw [v.1]; exact qk.1) (by rw [f94]; exact q94) (by decide)) (fun r h2 q => ?_)
        obtain ⟨⟨c, rfl, cr, cl, cg⟩, w⟩ := q
        rw [v.1, f94] at cl cg
        have cO := w.cO
        by_cases eq : zU z q = (off : Rat)
        · have c0 : c = 0 := by
            have a1 : ¬ c < 0 := fun t => by have := cl.mp t; grind
            have a2 : ¬ 0 < c := fun t => by have := cg.mp t; grind
            omega
          refine wr_if_ne rfl rfl rfl (by omega) (fun c119 => by exfalso; omega) (fun c119 => ?_)
          refine wr_iload rfl rfl rfl ?_
          refine wr_goto rfl rfl ?_
          refine wr_istore_n (ls' := [_, _, _, _, _, _]) rfl rfl (Nat.le_of_ble_eq_true rfl) rfl ?_
          refine wr_iinc (ls' := [_, _, _, _, _, _]) rfl rfl rfl rfl ?_
          refine wr_goto rfl rfl ?_
          refine ih (q + 1) (q : Int) _ _ (by omega) w (Or.inr ⟨q, rfl, by omega, eq, fun i hi ei => ?_⟩)
          by_cases qi : i = q
          · subst qi; exact Nat.le_refl _
          · exact near i (by omega) ei
        · have c0 : c ≠ 0 := by
            intro t
            have a1 : ¬ zU z q < (off : Rat) := fun s => by have := cl.mpr s; omega
            have a2 : ¬ (off : Rat) < zU z q := fun s => by have := cg.mpr s; omega
            exact eq (by grind)
          refine wr_if_ne rfl rfl rfl (by omega) (fun c119 => ?_) (fun c119 => by exfalso; omega)
          exact SKIP _ _ w (B eq)
      rcases B with ⟨rfl, no⟩ | ⟨b, rfl, hb, eb, near⟩
      ·
        refine wr_iload rfl rfl rfl ?_
        refine wr_aload_n rfl rfl rfl ?_
        refine wr_get (ci := 12) (f := 23) rfl rfl rfl (by assumption) rfl ?_
        rw [e23]
        refine wr_icmp_ge rfl rfl rfl (by omega) (by omega) (fun c64 => by exfalso; omega) (fun c64 => ?_)
        refine wr_iload_n rfl rfl rfl ?_
        refine wr_iconst rfl rfl ?_
        refine wr_icmp_eq rfl rfl rfl (by omega) (by omega) (fun c69 => ?_) (fun c69 => by exfalso; omega)
        refine wr_iconst rfl rfl ?_
        refine wr_goto rfl rfl ?_
        refine wr_istore (ls' := [_, _, _, _, _, _]) rfl rfl (Nat.le_of_ble_eq_true rfl) rfl ?_
        refine TRY h w (fun ne => Or.inl ⟨rfl, fun i hi => ?_⟩) (fun i hi ei => absurd ei (no i hi))
        by_cases qi : i = q
        · subst qi; exact ne
        · exact no i (by omega)
      ·
        refine wr_iload rfl rfl rfl ?_
        refine wr_aload_n rfl rfl rfl ?_
        refine wr_get (ci := 12) (f := 23) rfl rfl rfl (by assumption) rfl ?_
        rw [e23]
        refine wr_icmp_ge rfl rfl rfl (by omega) (by omega) (fun c64 => by exfalso; omega) (fun c64 => ?_)
        refine wr_iload_n rfl rfl rfl ?_
        refine wr_iconst rfl rfl ?_
        refine wr_icmp_eq rfl rfl rfl (by omega) (by omega) (fun c69 => by exfalso; omega) (fun c69 => ?_)
        refine wr_iload rfl rfl rfl ?_
        refine wr_aload_n rfl rfl rfl ?_
        refine wr_get (ci := 12) (f := 25) rfl rfl rfl (by assumption) rfl ?_
        rw [e25]
        refine wr_isub rfl rfl ?_
        refine wr_i2l rfl rfl (by omega) ?_
        refine wr_cs1 (k' := 141) rfl rfl rfl rfl rfl (wp_rsize (u := (q : Int) - (z.L.N : Int)) (by omega)) (fun r h2 q => ?_)
        obtain ⟨rfl, rfl⟩ := q
        refine wr_iload_n rfl rfl rfl ?_
        refine wr_aload_n rfl rfl rfl ?_
        refine wr_get (ci := 12) (f := 25) rfl rfl rfl (by assumption) rfl ?_
        rw [e25]
        refine wr_isub rfl rfl ?_
        refine wr_i2l rfl rfl (by omega) ?_
        refine wr_cs1 (k' := 141) rfl rfl rfl rfl rfl (wp_rsize (u := (b : Int) - (z.L.N : Int)) (by omega)) (fun r h2 q => ?_)
        obtain ⟨rfl, rfl⟩ := q
        have nq : (((q : Int) - (z.L.N : Int)).natAbs : Int) ≤ 100 := by omega
        have nb : (((b : Int) - (z.L.N : Int)).natAbs : Int) ≤ 100 := by omega
        obtain ⟨Dq, eDq⟩ : ∃ D, D = ((q : Int) - (z.L.N : Int)).natAbs := ⟨_, rfl⟩
        obtain ⟨Db, eDb⟩ : ∃ D, D = ((b : Int) - (z.L.N : Int)).natAbs := ⟨_, rfl⟩
        rw [← eDq] at nq ⊢
        rw [← eDb] at nb ⊢
        by_cases lt : Dq < Db
        ·
          refine wr_l_ge rfl rfl rfl rfl rfl (by omega) (by omega) (fun c93 => by exfalso; omega) (fun c93 => ?_)
          refine wr_iconst rfl rfl ?_
          refine wr_goto rfl rfl ?_
          refine wr_istore (ls' := [_, _, _, _, _, _]) rfl rfl (Nat.le_of_ble_eq_true rfl) rfl ?_
          refine TRY _ w (fun ne => Or.inr ⟨b, rfl, hb, eb, fun i hi ei => ?_⟩) (fun i hi ei => ?_)
          · by_cases qi : i = q
            · subst qi; exact absurd ei ne
            · exact near i (by omega) ei
          · have := near i hi ei
            omega
        ·
          refine wr_l_ge rfl rfl rfl rfl rfl (by omega) (by omega) (fun c93 => ?_) (fun c93 => by exfalso; omega)
          refine wr_iconst rfl rfl ?_
          refine wr_istore (ls' := [_, _, _, _, _, _]) rfl rfl (Nat.le_of_ble_eq_true rfl) rfl ?_
          refine wr_iload rfl rfl rfl ?_
          refine wr_if_eq rfl rfl rfl (by omega) (fun c106 => ?_) (fun c106 => by exfalso; omega)
          refine SKIP _ _ w (Or.inr ⟨b, rfl, hb, eb, fun i hi ei => ?_⟩)
          by_cases qi : i = q
          · subst qi; omega
          · exact near i (by omega) ei
  refine wr_iconst rfl rfl ?_
  refine wr_istore_n (ls' := [_, _, _, _, _, _]) rfl rfl (Nat.le_of_ble_eq_true rfl) rfl ?_
  refine wr_iconst rfl rfl ?_
  refine wr_istore (ls' := [_, _, _, _, _, _]) rfl rfl (Nat.le_of_ble_eq_true rfl) rfl ?_
  exact L (z.L.N + 1 + z.R.N) 0 (-1) h am_U (by omega) w (Or.inl ⟨rfl, fun i hi => absurd hi (Nat.not_lt_zero _)⟩)
theorem rr_level {d : Nat} {off part : Int} (C : RR h z) (V : VS z) (hi0 : z.wk = 1 → z.L.hi 0 = z.R.hi 0) (ho : -2147483648 ≤ off ∧ off ≤ 2147483647) (hp : -2147483648 ≤ part ∧ part ≤ 2147483647) : am_c X (d + 8) 203 [.ref 164, .int (iI off), .int (iI part)] h (fun r h' => r = some (.long (lI (levP z off part))) ∧ RR h' z ∧ frI [(164, 181)] h h') := by
  have C0 := C
  obtain ⟨o, F0, A, w, r⟩ := C
  obtain ⟨e23, c0, cb, sc⟩ := r.c
  have cn := V.cornB
  have wk := V.wkb
  have cO := w.cO
  refine am_c.of (Nat.le_of_ble_eq_true rfl) ?_
  show am_w _ _ _ (_, [_, _, _, _, _, _], _, _) _
  by_cases w1 : z.wk = 1
  · obtain ⟨ok, H1, H2⟩ := V.sec w1
    have SC := sc_H ok H1 H2 (hi0 w1)
    have NL := H1.ok.1
    have NR := H2.ok.1
    have cn1 := (cn.2.2.1 w1).2
    obtain ⟨⟨s25, -, -⟩, -, cs, -⟩ := sc w1
    have eK : cornN z = ((z.L.N + 1 + z.R.N : Nat) : Int) := by omega
    have kU : ∀ i, i < z.L.N + 1 + z.R.N → F0 i = zU z i ∧ F0 (26 + i) = zY z i := fun i hi => (cs i (by omega)).2
    have e23 : o 23 = ((z.L.N + 1 + z.R.N : Nat) : Int) := by rw [e23, eK]
    have q94 : qB 3 ((off : Int) : Rat) := by
      rw [← div1Q]
      exact qB.long (by omega) (by decide)
    refine wr_aload_n rfl rfl rfl ?_
    refine wr_get (ci := 12) (f := 23) rfl rfl rfl (by assumption) rfl ?_
    rw [e23]
    refine wr_if_ne rfl rfl rfl (by omega) (fun c4 => ?_) (fun c4 => by exfalso; omega)
    refine wr_aload_n rfl rfl rfl ?_
    refine wr_bipush rfl rfl (by decide) ?_
    refine wr_iload_n rfl rfl rfl ?_
    refine wr_i2l rfl rfl (by omega) ?_
    refine wr_lconst (z := 1) rfl rfl rfl ?_
    refine wr_cv3 (k' := 140) (ci := 12) rfl rfl rfl rfl (by assumption) rfl rfl (fw_set (f := 94) (u := off) (v := 1) w (by decide) (by omega) (by decide) (by decide)) (fun r h2 q => ?_)
    obtain ⟨rfl, w⟩ := q
    obtain ⟨F2, w, s2, m2⟩ := ff_ex w
    rw [div1Q] at s2
    have cO := w.cO
    have kU2 : ∀ i, i < z.L.N + 1 + z.R.N → F2 i = zU z i ∧ F2 (26 + i) = zY z i := fun i hi => by rw [m2 i (by omega), m2 (26 + i) (by omega)]; exact kU i hi
    have v0 := (kU2 0 (by omega)).1
    have vK := (kU2 (z.L.N + z.R.N) (by omega)).1
    have FIN : ∀ (h' : am_H) (F' : Nat → Rat), FW h h' o F' A → (∀ g, g < 94 → F' g = F0 g) → RR h' z ∧ frI [(164, 181)] h h' := fun h' F' w e => RR.of r V w e
    have k2 : ∀ g, g < 94 → F2 g = F0 g := fun g hg => m2 g (by omega)
    refine wr_aload_n rfl rfl rfl ?_
    refine wr_bipush rfl rfl (by decide) ?_
    refine wr_iconst rfl rfl ?_
    refine wr_cv2 (k' := 186) (ci := 12) rfl rfl rfl rfl (by assumption) rfl rfl (fw_compare (a := 94) (b := 0) (P := 3) (R := 3) w (by decide) (by decide) (by rw [s2]; exact q94) (by rw [v0]; exact (SC.1 0 (by omega)).1) (by decide)) (fun r h2 q => ?_)
    obtain ⟨⟨c, rfl, cr, cl, -⟩, w⟩ := q
    rw [s2, v0] at cl
    have cO := w.cO
    by_cases lo : (off : Rat) < zU z 0
    · have c0 := cl.mpr lo
      rw [lev_out w1 H1 H2 (Or.inl lo)]
      refine wr_if_lt rfl rfl rfl (by omega) (fun c28 => ?_) (fun c28 => by exfalso; omega)
      refine wr_iload_n rfl rfl rfl ?_
      refine wr_cs1 (k' := 195) rfl rfl rfl rfl rfl (rr_bad hp) (fun r h2 q => ?_)
      obtain ⟨rfl, rfl⟩ := q
      refine wr_lret rfl rfl ?_
      exact ⟨rfl, FIN _ F2 w k2⟩
    · have c0 : ¬ c < 0 := fun q => lo (cl.mp q)
      have e0 : (0 : Int) + ((z.L.N + 1 + z.R.N : Nat) : Int) = ((z.L.N + 1 + z.R.N : Nat) : Int) := by omega
      have e1 : ((z.L.N + 1 + z.R.N : Nat) : Int) - 1 = ((z.L.N + z.R.N : Nat) : Int) := by omega
      refine wr_if_lt rfl rfl rfl (by omega) (fun c28 => by exfalso; omega) (fun c28 => ?_)
      refine wr_aload_n rfl rfl rfl ?_
      refine wr_bipush rfl rfl (by decide) ?_
      refine wr_iconst rfl rfl ?_
      refine wr_aload_n rfl rfl rfl ?_
      refine wr_get (ci := 12) (f := 23) rfl rfl rfl (by assumption) rfl ?_
      rw [e23]
      refine wr_iadd rfl rfl ?_
      rw [e0]
      refine wr_iconst rfl rfl ?_
      refine wr_isub rfl rfl ?_
      rw [e1]
      refine wr_cv2 (k' := 186) (ci := 12) rfl rfl rfl rfl (by assumption) rfl rfl (fw_compare (a := 94) (b := z.L.N + z.R.N) (P := 3) (R := 3) w (by decide) (by omega) (by rw [s2]; exact q94) (by rw [vK]; exact (SC.1 _ (by omega)).1) (by decide)) (fun r h2 q => ?_)
      obtain ⟨⟨c', rfl, cr', -, cg⟩, w⟩ := q
      rw [s2, vK] at cg
      have cO := w.cO
      by_cases up : zU z (z.L.N + z.R.N) < (off : Rat)
      · have c0 := cg.mpr up
        rw [lev_out w1 H1 H2 (Or.inr up)]
        refine wr_if_le rfl rfl rfl (by omega) (fun c45 => by exfalso; omega) (fun c45 => ?_)
        refine wr_iload_n rfl rfl rfl ?_
        refine wr_cs1 (k' := 195) rfl rfl rfl rfl rfl (rr_bad hp) (fun r h2 q => ?_)
        obtain ⟨rfl, rfl⟩ := q
        refine wr_lret rfl rfl ?_
        exact ⟨rfl, FIN _ F2 w k2⟩
      · have c0 : ¬ 0 < c' := fun q => up (cg.mp q)
        refine wr_if_le rfl rfl rfl (by omega) (fun c45 => ?_) (fun c45 => by exfalso; omega)
        refine (rr_level1 (d := d) V w1 (hi0 w1) kU2 e23 s25 hp ho s2 q94 lo up w).mono (fun r h' q => ?_)
        obtain ⟨q1, F3, q2, q3⟩ := q
        exact ⟨q1, FIN _ F3 q2 (fun g hg => by rw [q3 g hg, k2 g hg])⟩
  · have w0 : z.wk = 0 := by omega
    have cn0 := cn.2.2.2 w0
    have lv : levP z off part = missP part := by unfold levP; rw [if_neg w1]
    rw [lv]
    refine wr_aload_n rfl rfl rfl ?_
    refine wr_get (ci := 12) (f := 23) rfl rfl rfl (by assumption) rfl ?_
    rw [e23]
    refine wr_if_ne rfl rfl rfl (by omega) (fun c4 => by exfalso; omega) (fun c4 => ?_)
    refine wr_iload_n rfl rfl rfl ?_
    refine wr_cs1 (k' := 195) rfl rfl rfl rfl rfl (rr_bad hp) (fun r h2 q => ?_)
    obtain ⟨rfl, rfl⟩ := q
    refine wr_lret rfl rfl ?_
    exact ⟨rfl, C0, frI_rf _ _⟩
end RTI
