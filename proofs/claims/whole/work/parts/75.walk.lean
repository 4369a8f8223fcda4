/-! THE CLASS'S WALK -/
section WAK
variable {X : Nat × (Nat → Int32)} {h0 h h' : am_H} {gn ws as b : Nat} {go gl tk : Nat → Int} {wk ch st ix pl : Int} {S : Nat → Sq} {F : Nat → Rat} {W : Nat → Int}
theorem GW.tm {t : Nat} {m : Tm} (w : GW h0 (h) gn go gl wk ch tk S ws st as ix pl F W) (ht : isT h0 t m) (c : t + 5 < 19) : isT h t m := ht.same (w.fr.same (lo := t) (hi := t + 5) (fun p hp => by simp at hp; subst hp; simp only; omega)) ⟨Nat.le_refl _, Nat.le_refl _⟩
def walQ (b : Nat) (h0 : am_H) (gn : Nat) (go gl : Nat → Int) (wk : Int) (S : Nat → Sq) (st : Int) (as : Nat) (ix pl : Int) (F : Nat → Rat) (W : Nat → Int) (R : WS) (r : Option Value) (h' : am_H) : Prop := r = none ∧ ∃ F', GW h0 (h') gn go gl wk ((R.ch : Int)) (R.tk) (updS S b R.s) (b) st as ix pl (F') W ∧ F' (b + 6) = R.eo ∧ F' (b + 11) = R.el ∧ keepG b F F'
theorem gw_walk {d t tp c : Nat} {m : Tm} {bank : Int} (w : GW h0 (h) gn go gl wk ((c : Int)) tk S ws st as ix pl F W) (ht : isT h0 t m) (t18 : t + 5 < 19) (hb : b = 46 ∨ b = 62) (ok : okG gn go gl) (g : GT m.kd m.fi m.se m.ta m.en m.od m.sz) (htp : tp < m.sz) (hod : m.od ≤ 144) (hbk : -150 ≤ bank ∧ bank ≤ 150) (oS : okB (S b)) (N0 : (S b).N = 0) (hc : c ≤ 12) : am_c X (d + 7) 59 [.ref 79, .ref b, .ref t, .int (iI tp), .int (iI bank)] h (walQ b h0 gn go gl wk S st as ix pl F W (wLoop m.kd m.fi m.se m.ta gn go gl (sgO b) bank (m.en tp) 24 (WS.mk (S b) (F (b + 6)) (F (b + 11)) c tk) (stOf m.en tp))) := by
  have k6 := g.k6
  have mo := g.mono tp htp
  have gc := g.cnt tp htp
  have hs := sgO_in b
  obtain ⟨en, een⟩ : ∃ z, z = m.en tp := ⟨_, rfl⟩
  rw [← een] at mo gc ⊢
  have L : ∀ (r i k : Nat) (w0 : WS) (S1 : Nat → Sq) (F1 : Nat → Rat) (h1 : am_H), i + r = 24 → InvW m.kd (stOf m.en tp) c w0 k → (k : Int) ≤ en → S1 = updS S b w0.s → GW h0 (h1) gn go gl wk ((w0.ch : Int)) (w0.tk) (S1) (b) st as ix pl (F1) W → F1 (b + 6) = w0.eo → F1 (b + 11) = w0.el → keepG b F F1 → am_w X (d + 6) 59 (22, [.ref 79, .ref b, .ref t, .int (iI tp), .int (iI bank), .int (iI k), .int (iI en), .int (iI i), am_U, am_U, am_U, am_U], [], h1) (walQ b h0 gn go gl wk S st as ix pl F W (wLoop m.kd m.fi m.se m.ta gn go gl (sgO b) bank en r w0 k)) := by
    intro r
    induction r with
    | zero =>
      intro i k w0 S1 F1 h1 hi I hk hS w v6 v11 K
      refine wr_iload rfl rfl rfl ?_
      refine wr_bipush rfl rfl (by decide) ?_
      refine wr_icmp_ge rfl rfl rfl (by omega) (by omega) (fun c26 => ?_) (fun c26 => by exfalso; omega)
      refine wr_vret rfl rfl ?_
      subst hS
      exact ⟨rfl, F1, w, v6, v11, K⟩
    | succ r ih =>
      intro i k w0 S1 F1 h1 hi I hk hS w v6 v11 K
      have eS : S1 b = w0.s := by rw [hS, updS_s]
      have fin : ∀ r' : Option Value, r' = none → walQ b h0 gn go gl wk S st as ix pl F W w0 r' h1 := fun r' e => ⟨e, F1, hS ▸ w, v6, v11, K⟩
      have ein := I.ok.2.1
      have cwa := w.wa
      have cb0 := (w.sd hb).1
      have ct0 := (w.tm ht t18).1
      rw [eS] at cb0
      rw [wLoop]
      by_cases c1 : (k : Int) < en
      case neg =>
        rw [if_neg (fun q => c1 q.1)]
        refine wr_iload rfl rfl rfl ?_
        refine wr_bipush rfl rfl (by decide) ?_
        refine wr_icmp_ge rfl rfl rfl (by omega) (by omega) (fun c26 => by exfalso; omega) (fun c26 => ?_)
        refine wr_iload rfl rfl rfl ?_
        refine wr_iload rfl rfl rfl ?_
        refine wr_icmp_ge rfl rfl rfl (by omega) (by omega) (fun c33 => ?_) (fun c33 => by exfalso; omega)
        refine wr_vret rfl rfl ?_
        exact fin _ rfl
      by_cases c2 : w0.s.e = 0
      case neg =>
        rw [if_neg (fun q => c2 q.2)]
        refine wr_iload rfl rfl rfl ?_
        refine wr_bipush rfl rfl (by decide) ?_
        refine wr_icmp_ge rfl rfl rfl (by omega) (by omega) (fun c26 => by exfalso; omega) (fun c26 => ?_)
        refine wr_iload rfl rfl rfl ?_
        refine wr_iload rfl rfl rfl ?_
        refine wr_icmp_ge rfl rfl rfl (by omega) (by omega) (fun c33 => by exfalso; omega) (fun c33 => ?_)
        refine wr_aload_n rfl rfl rfl ?_
        refine wr_get (ci := 9) (f := 3) rfl rfl rfl (by assumption) rfl ?_
        refine wr_get (ci := 7) (f := 7) rfl rfl rfl (by assumption) rfl ?_
        refine wr_if_ne rfl rfl rfl (by omega) (fun c43 => ?_) (fun c43 => by exfalso; omega)
        refine wr_vret rfl rfl ?_
        exact fin _ rfl
      rw [if_pos ⟨c1, c2⟩]
      have kst := I.stk
      have row := g.row k (by omega)
      have tar := fun q => g.tar tp k htp kst (by omega) q
      rw [← een] at tar
      have nx := InvW.next (n := gn) (off := go) (lev := gl) (sg := sgO b) (bank := bank) I c1 gc row tar hs hbk
      obtain ⟨I2, n1, n2, n12, nN⟩ := nx
      obtain ⟨r1, r2, r3, r4, r5, r6, r7, r8⟩ := row
      have oB : okB (S1 b) := eS ▸ I.ok
      refine wr_iload rfl rfl rfl ?_
      refine wr_bipush rfl rfl (by decide) ?_
      refine wr_icmp_ge rfl rfl rfl (by omega) (by omega) (fun c26 => by exfalso; omega) (fun c26 => ?_)
      refine wr_iload rfl rfl rfl ?_
      refine wr_iload rfl rfl rfl ?_
      refine wr_icmp_ge rfl rfl rfl (by omega) (by omega) (fun c33 => by exfalso; omega) (fun c33 => ?_)
      refine wr_aload_n rfl rfl rfl ?_
      refine wr_get (ci := 9) (f := 3) rfl rfl rfl (by assumption) rfl ?_
      refine wr_get (ci := 7) (f := 7) rfl rfl rfl (by assumption) rfl ?_
      refine wr_if_ne rfl rfl rfl (by omega) (fun c43 => by exfalso; omega) (fun c43 => ?_)
      refine wr_aload_n rfl rfl rfl ?_
      refine wr_iload rfl rfl rfl ?_
      refine wr_cv1 (k' := 26) (ci := 1) rfl rfl rfl rfl (by assumption) rfl rfl (wp_tkind (w.tm ht t18) (by omega)) (fun r h2 q => ?_)
      obtain ⟨rfl, hh⟩ := q
      rw [hh]
      clear hh h2
      dsimp only [Option.toList, List.cons_append, List.nil_append]
      refine wr_istore (ls' := [_, _, _, _, _, _, _, _, _, _, _, _]) rfl rfl (Nat.le_of_ble_eq_true rfl) rfl ?_
      refine wr_aload_n rfl rfl rfl ?_
      refine wr_iload rfl rfl rfl ?_
      refine wr_cv1 (k' := 62) (ci := 1) rfl rfl rfl rfl (by assumption) rfl rfl (wp_tfirst (w.tm ht t18) (by omega)) (fun r h2 q => ?_)
      obtain ⟨rfl, hh⟩ := q
      rw [hh]
      clear hh h2
      dsimp only [Option.toList, List.cons_append, List.nil_append]
      refine wr_istore (ls' := [_, _, _, _, _, _, _, _, _, _, _, _]) rfl rfl (Nat.le_of_ble_eq_true rfl) rfl ?_
      refine wr_aload_n rfl rfl rfl ?_
      refine wr_iload rfl rfl rfl ?_
      refine wr_cv1 (k' := 63) (ci := 1) rfl rfl rfl rfl (by assumption) rfl rfl (wp_tsecond (w.tm ht t18) (by omega)) (fun r h2 q => ?_)
      obtain ⟨rfl, hh⟩ := q
      rw [hh]
      clear hh h2
      dsimp only [Option.toList, List.cons_append, List.nil_append]
      refine wr_istore (ls' := [_, _, _, _, _, _, _, _, _, _, _, _]) rfl rfl (Nat.le_of_ble_eq_true rfl) rfl ?_
      refine wr_iload rfl rfl rfl ?_
      refine wr_iconst rfl rfl ?_
      refine wr_iadd rfl rfl ?_
      refine wr_istore (ls' := [_, _, _, _, _, _, _, _, _, _, _, _]) rfl rfl (Nat.le_of_ble_eq_true rfl) rfl ?_
      -- to the next turn
      have GO : ∀ (k2 : Nat) (S2 : Nat → Sq) (F2 : Nat → Rat) (h2 : am_H) (x8 x9 x10 : Value), (wStep m.kd m.fi m.se m.ta gn go gl (sgO b) bank w0 k).2 = k2 → S2 = updS S b (wStep m.kd m.fi m.se m.ta gn go gl (sgO b) bank w0 k).1.s → GW h0 (h2) gn go gl wk (((wStep m.kd m.fi m.se m.ta gn go gl (sgO b) bank w0 k).1.ch : Int)) ((wStep m.kd m.fi m.se m.ta gn go gl (sgO b) bank w0 k).1.tk) (S2) (b) st as ix pl (F2) W → F2 (b + 6) = (wStep m.kd m.fi m.se m.ta gn go gl (sgO b) bank w0 k).1.eo → F2 (b + 11) = (wStep m.kd m.fi m.se m.ta gn go gl (sgO b) bank w0 k).1.el → keepG b F F2 → am_w X (d + 6) 59 (209, [.ref 79, .ref b, .ref t, .int (iI tp), .int (iI bank), .int (iI k), .int (iI en), .int (iI i), x8, x9, x10, .int (iI k2)], [], h2) (walQ b h0 gn go gl wk S st as ix pl F W (wLoop m.kd m.fi m.se m.ta gn go gl (sgO b) bank en r (wStep m.kd m.fi m.se m.ta gn go gl (sgO b) bank w0 k).1 (wStep m.kd m.fi m.se m.ta gn go gl (sgO b) bank w0 k).2)) := by
        intro k2 S2 F2 h2 x8 x9 x10 e2 hS2 w a6 a11 K2
        refine wr_iload rfl rfl rfl ?_
        refine wr_istore (ls' := [_, _, _, _, _, _, _, _, _, _, _, _]) rfl rfl (Nat.le_of_ble_eq_true rfl) rfl ?_
        refine wr_iinc (ls' := [_, _, _, _, _, _, _, _, _, _, _, _]) rfl rfl rfl rfl ?_
        refine wr_goto rfl rfl ?_
        rw [show (i : Int) + 1 = ((i + 1 : Nat) : Int) by omega]
        refine am_w.wk (ls' := [_, _, _, _, _, _, _, _, am_U, am_U, am_U, am_U]) ⟨Or.inr rfl, Or.inr rfl, Or.inr rfl, Or.inr rfl, Or.inr rfl, Or.inr rfl, Or.inr rfl, Or.inr rfl, Or.inl rfl, Or.inl rfl, Or.inl rfl, Or.inl rfl, trivial⟩ ?_
        rw [← e2]
        exact ih (i + 1) _ _ S2 F2 h2 (by omega) I2 n2 hS2 w a6 a11 K2
      by_cases k10 : m.kd k = 10
      · have eW : wStep m.kd m.fi m.se m.ta gn go gl (sgO b) bank w0 k = (w0, (m.ta k).toNat) := by unfold wStep; rw [if_pos k10]
        have tk := tar (by omega)
        have et : m.ta k = ((m.ta k).toNat : Int) := by omega
        refine wr_iload rfl rfl rfl ?_
        refine wr_bipush rfl rfl (by decide) ?_
        refine wr_icmp_ne rfl rfl rfl (by omega) (by omega) (fun c80 => by exfalso; omega) (fun c80 => ?_)
        refine wr_aload_n rfl rfl rfl ?_
        refine wr_iload rfl rfl rfl ?_
        refine wr_cv1 (k' := 64) (ci := 1) rfl rfl rfl rfl (by assumption) rfl rfl (wp_ttarget (w.tm ht t18) (by omega)) (fun r h2 q => ?_)
        obtain ⟨rfl, hh⟩ := q
        rw [hh]
        clear hh h2
        dsimp only [Option.toList, List.cons_append, List.nil_append]
        rw [et]
        refine wr_istore (ls' := [_, _, _, _, _, _, _, _, _, _, _, _]) rfl rfl (Nat.le_of_ble_eq_true rfl) rfl ?_
        refine wr_goto rfl rfl ?_
        refine GO _ S1 F1 _ _ _ _ (by rw [eW]) (by rw [eW]; exact hS) ?_ (by rw [eW]; exact v6) (by rw [eW]; exact v11) K
        rw [eW]
        exact w
      have N12 := nN k10
      have chn : w0.ch < 24 := by have := I.c0l; omega
      have hN : (S1 b).N < 12 := by rw [eS]; omega
      by_cases k6 : 6 ≤ m.kd k
      · have tq := tar k6
        have et : m.ta k = ((m.ta k).toNat : Int) := by omega
        have bh := b2_in (holdP (m.kd k) (m.fi k) (gapS gn go gl (sgO b) ((S1 b).ou (S1 b).N) ((S1 b).hi (S1 b).N)) (1000 * gL gn go (sgO b * (S1 b).ou (S1 b).N)))
        have eW : wStep m.kd m.fi m.se m.ta gn go gl (sgO b) bank w0 k = (if holdP (m.kd k) (m.fi k) (wGap gn go gl (sgO b) w0.s) (wLow gn go (sgO b) w0.s) then ((WS.mk w0.s w0.eo w0.el (w0.ch + 1) (updI w0.tk w0.ch 1)), k + 1) else ((WS.mk w0.s w0.eo w0.el (w0.ch + 1) (updI w0.tk w0.ch (if m.se k = 1 then 2 else 0))), (m.ta k).toNat)) := by
          unfold wStep; rw [if_neg k10, if_pos k6]
        refine wr_iload rfl rfl rfl ?_
        refine wr_bipush rfl rfl (by decide) ?_
        refine wr_icmp_ne rfl rfl rfl (by omega) (by omega) (fun c80 => ?_) (fun c80 => by exfalso; omega)
        refine wr_iload rfl rfl rfl ?_
        refine wr_bipush rfl rfl (by decide) ?_
        refine wr_icmp_lt rfl rfl rfl (by omega) (by omega) (fun c98 => by exfalso; omega) (fun c98 => ?_)
        refine wr_aload_n rfl rfl rfl ?_
        refine wr_aload_n rfl rfl rfl ?_
        refine wr_iload rfl rfl rfl ?_
        refine wr_iload rfl rfl rfl ?_
        refine wr_i2l rfl rfl (by omega) ?_
        refine wr_cv2 (k' := 65) (ci := 9) rfl rfl rfl rfl (by assumption) rfl rfl (gw_holds w hb ok oB (by omega) (by omega)) (fun r h2 q => ?_)
        obtain ⟨rfl, hh⟩ := q
        rw [hh]
        clear hh h2
        dsimp only [Option.toList, List.cons_append, List.nil_append]
        have Y : ∀ y : Int, (y = 0 ∨ y = 1) → (if y = 1 then (2 : Int) else 0) = (if m.se k = 1 then 2 else 0) → am_w X (d + 6) 59 (122, [.ref 79, .ref b, .ref t, .int (iI tp), .int (iI bank), .int (iI k), .int (iI en), .int (iI i), .int (iI (m.kd k)), .int (iI (m.fi k)), .int (iI (m.se k)), .int (iI ((k : Int) + 1))], [.int (iI y), .int (iI (b2 (holdP (m.kd k) (m.fi k) (gapS gn go gl (sgO b) ((S1 b).ou (S1 b).N) ((S1 b).hi (S1 b).N)) (1000 * gL gn go (sgO b * (S1 b).ou (S1 b).N))))), .ref 79], h1) (walQ b h0 gn go gl wk S st as ix pl F W (wLoop m.kd m.fi m.se m.ta gn go gl (sgO b) bank en r (wStep m.kd m.fi m.se m.ta gn go gl (sgO b) bank w0 k).1 (wStep m.kd m.fi m.se m.ta gn go gl (sgO b) bank w0 k).2)) := by
          intro y hy ey
          refine wr_cv2 (k' := 75) (ci := 9) rfl rfl rfl rfl (by assumption) rfl rfl (gw_choose w chn (by omega) hy) (fun r h2 q => ?_)
          obtain ⟨rfl, w⟩ := q
          dsimp only [Option.toList, List.cons_append, List.nil_append]
          by_cases hh : holdP (m.kd k) (m.fi k) (gapS gn go gl (sgO b) ((S1 b).ou (S1 b).N) ((S1 b).hi (S1 b).N)) (1000 * gL gn go (sgO b * (S1 b).ou (S1 b).N))
          · have b1 := b2_t hh
            rw [b1] at w
            rw [b1]
            rw [eS] at hh
            have eW : wStep m.kd m.fi m.se m.ta gn go gl (sgO b) bank w0 k = ((WS.mk w0.s w0.eo w0.el (w0.ch + 1) (updI w0.tk w0.ch 1)), k + 1) := by rw [eW, if_pos (show holdP _ _ (wGap gn go gl (sgO b) w0.s) (wLow gn go (sgO b) w0.s) from hh)]
            refine wr_if_eq rfl rfl rfl (by omega) (fun c125 => by exfalso; omega) (fun c125 => ?_)
            refine wr_iload rfl rfl rfl ?_
            refine wr_goto rfl rfl ?_
            refine wr_istore (ls' := [_, _, _, _, _, _, _, _, _, _, _, _]) rfl rfl (Nat.le_of_ble_eq_true rfl) rfl ?_
            refine wr_goto rfl rfl ?_
            rw [show (k : Int) + 1 = ((k + 1 : Nat) : Int) by omega]
            refine GO _ S1 F1 _ _ _ _ (by rw [eW]) (by rw [eW]; exact hS) ?_ (by rw [eW]; exact v6) (by rw [eW]; exact v11) K
            rw [eW]
            exact w
          · have b1 := b2_f hh
            rw [b1] at w
            rw [b1]
            rw [eS] at hh
            have eW : wStep m.kd m.fi m.se m.ta gn go gl (sgO b) bank w0 k = ((WS.mk w0.s w0.eo w0.el (w0.ch + 1) (updI w0.tk w0.ch (if m.se k = 1 then 2 else 0))), (m.ta k).toNat) := by rw [eW, if_neg (show ¬ holdP _ _ (wGap gn go gl (sgO b) w0.s) (wLow gn go (sgO b) w0.s) from hh)]
            rw [if_neg (by decide), ey] at w
            have ct0 := (w.tm ht t18).1
            refine wr_if_eq rfl rfl rfl (by omega) (fun c125 => ?_) (fun c125 => by exfalso; omega)
            refine wr_aload_n rfl rfl rfl ?_
            refine wr_iload rfl rfl rfl ?_
            refine wr_cv1 (k' := 64) (ci := 1) rfl rfl rfl rfl (by assumption) rfl rfl (wp_ttarget (w.tm ht t18) (by omega)) (fun r h2 q => ?_)
            obtain ⟨rfl, hh⟩ := q
            rw [hh]
            clear hh h2
            dsimp only [Option.toList, List.cons_append, List.nil_append]
            rw [et]
            refine wr_istore (ls' := [_, _, _, _, _, _, _, _, _, _, _, _]) rfl rfl (Nat.le_of_ble_eq_true rfl) rfl ?_
            refine wr_goto rfl rfl ?_
            refine GO _ S1 F1 _ _ _ _ (by rw [eW]) (by rw [eW]; exact hS) ?_ (by rw [eW]; exact v6) (by rw [eW]; exact v11) K
            rw [eW]
            exact w
        by_cases s1 : m.se k = 1
        ·
          refine wr_iload rfl rfl rfl ?_
          refine wr_iconst rfl rfl ?_
          refine wr_icmp_ne rfl rfl rfl (by omega) (by omega) (fun c114 => by exfalso; omega) (fun c114 => ?_)
          refine wr_iconst rfl rfl ?_
          refine wr_goto rfl rfl ?_
          exact Y 1 (Or.inr rfl) (by rw [if_pos rfl, if_pos s1])
        ·
          refine wr_iload rfl rfl rfl ?_
          refine wr_iconst rfl rfl ?_
          refine wr_icmp_ne rfl rfl rfl (by omega) (by omega) (fun c114 => ?_) (fun c114 => by exfalso; omega)
          refine wr_iconst rfl rfl ?_
          exact Y 0 (Or.inl rfl) (by rw [if_neg (by decide), if_neg s1])
      by_cases k4 : m.kd k = 4
      · have eW : wStep m.kd m.fi m.se m.ta gn go gl (sgO b) bank w0 k = ((WS.mk (wEnd w0.s 4 ((wGap gn go gl (sgO b) w0.s).sign * m.fi k) (m.se k)) (eoS gn go gl (sgO b) (w0.s.ou w0.s.N) (w0.s.hi w0.s.N) (m.fi k) (m.se k)) (elS gn go gl (sgO b) (w0.s.ou w0.s.N) (w0.s.hi w0.s.N) (m.fi k) (m.se k)) w0.ch w0.tk), k + 1) := by
          unfold wStep; rw [if_neg k10, if_neg k6, if_pos k4]
        have r7 := r7 k4
        refine wr_iload rfl rfl rfl ?_
        refine wr_bipush rfl rfl (by decide) ?_
        refine wr_icmp_ne rfl rfl rfl (by omega) (by omega) (fun c80 => ?_) (fun c80 => by exfalso; omega)
        refine wr_iload rfl rfl rfl ?_
        refine wr_bipush rfl rfl (by decide) ?_
        refine wr_icmp_lt rfl rfl rfl (by omega) (by omega) (fun c98 => ?_) (fun c98 => by exfalso; omega)
        refine wr_iload rfl rfl rfl ?_
        refine wr_iconst rfl rfl ?_
        refine wr_icmp_ne rfl rfl rfl (by omega) (by omega) (fun c147 => by exfalso; omega) (fun c147 => ?_)
        refine wr_aload_n rfl rfl rfl ?_
        refine wr_iload rfl rfl rfl ?_
        refine wr_i2l rfl rfl (by omega) ?_
        refine wr_iload rfl rfl rfl ?_
        refine wr_i2l rfl rfl (by omega) ?_
        refine wr_cv2 (k' := 77) (ci := 9) rfl rfl rfl rfl (by assumption) rfl rfl (gw_slope w hb ok oB hN (by omega) (by omega)) (fun r h2 q => ?_)
        obtain ⟨rfl, F2, w, a6, a11, K2⟩ := q
        dsimp only [Option.toList, List.nil_append]
        rw [eS] at w a6 a11
        refine wr_goto rfl rfl ?_
        rw [show (k : Int) + 1 = ((k + 1 : Nat) : Int) by omega]
        refine GO _ (updS S1 b (wEnd w0.s 4 ((wGap gn go gl (sgO b) w0.s).sign * m.fi k) (m.se k))) F2 _ _ _ _ (by rw [eW]) ?_ ?_ (by rw [eW]; exact a6) (by rw [eW]; exact a11) (fun f f1 f2 f3 f4 f5 => by rw [K2 f f1 f2 f3 f4 f5, K f f1 f2 f3 f4 f5])
        · rw [eW, hS, updS_2]
        · rw [eW]
          exact w
      by_cases k5 : m.kd k = 5
      · have eW : wStep m.kd m.fi m.se m.ta gn go gl (sgO b) bank w0 k = ((WS.mk (wEnd w0.s 5 0 1) (Rat.divInt (w0.s.ou w0.s.N) 1) (Rat.divInt (gU gn go gl (sgO b * w0.s.ou w0.s.N)) (gL gn go (sgO b * w0.s.ou w0.s.N))) w0.ch w0.tk), k + 1) := by
          unfold wStep; rw [if_neg k10, if_neg k6, if_neg k4, if_pos k5]
        refine wr_iload rfl rfl rfl ?_
        refine wr_bipush rfl rfl (by decide) ?_
        refine wr_icmp_ne rfl rfl rfl (by omega) (by omega) (fun c80 => ?_) (fun c80 => by exfalso; omega)
        refine wr_iload rfl rfl rfl ?_
        refine wr_bipush rfl rfl (by decide) ?_
        refine wr_icmp_lt rfl rfl rfl (by omega) (by omega) (fun c98 => ?_) (fun c98 => by exfalso; omega)
        refine wr_iload rfl rfl rfl ?_
        refine wr_iconst rfl rfl ?_
        refine wr_icmp_ne rfl rfl rfl (by omega) (by omega) (fun c147 => ?_) (fun c147 => by exfalso; omega)
        refine wr_iload rfl rfl rfl ?_
        refine wr_iconst rfl rfl ?_
        refine wr_icmp_ne rfl rfl rfl (by omega) (by omega) (fun c166 => by exfalso; omega) (fun c166 => ?_)
        refine wr_aload_n rfl rfl rfl ?_
        refine wr_cv0 (k' := 103) (ci := 9) rfl rfl rfl rfl (by assumption) rfl rfl (gw_wall w hb ok oB hN) (fun r h2 q => ?_)
        obtain ⟨rfl, w⟩ := q
        dsimp only [Option.toList, List.nil_append]
        rw [eS] at w
        refine wr_goto rfl rfl ?_
        rw [show (k : Int) + 1 = ((k + 1 : Nat) : Int) by omega]
        refine GO _ (updS S1 b (wEnd w0.s 5 0 1)) (updR (updR F1 (b + 6) (Rat.divInt (w0.s.ou w0.s.N) 1)) (b + 11) (Rat.divInt (gU gn go gl (sgO b * w0.s.ou w0.s.N)) (gL gn go (sgO b * w0.s.ou w0.s.N)))) _ _ _ _ (by rw [eW]) (by rw [eW, hS, updS_2]) ?_ ?_ ?_ (fun f f1 f2 f3 f4 f5 => ?_)
        · rw [eW]
          exact w
        · rw [eW, updR_n (by omega), updR_s]
        · rw [eW, updR_s]
        · rw [updR_n f5, updR_n f4, K f f1 f2 f3 f4 f5]
      · have eW : wStep m.kd m.fi m.se m.ta gn go gl (sgO b) bank w0 k = ((WS.mk (wStride w0.s (m.kd k) (m.fi k) (if m.kd k = 2 then -sgO b * bank else m.se k)) w0.eo w0.el w0.ch w0.tk), k + 1) := by
          unfold wStep; rw [if_neg k10, if_neg k6, if_neg k4, if_neg k5]
        have sb : -150 ≤ -sgO b * bank ∧ -sgO b * bank ≤ 150 := by rcases hs with e | e <;> rw [e] <;> omega
        have Y : ∀ dn : Int, dn = (if m.kd k = 2 then -sgO b * bank else m.se k) → am_w X (d + 6) 59 (206, [.ref 79, .ref b, .ref t, .int (iI tp), .int (iI bank), .int (iI k), .int (iI en), .int (iI i), .int (iI (m.kd k)), .int (iI (m.fi k)), .int (iI (m.se k)), .int (iI ((k : Int) + 1))], [.long (lI dn), .long (lI (m.fi k)), .int (iI (m.kd k)), .ref 79], h1) (walQ b h0 gn go gl wk S st as ix pl F W (wLoop m.kd m.fi m.se m.ta gn go gl (sgO b) bank en r (wStep m.kd m.fi m.se m.ta gn go gl (sgO b) bank w0 k).1 (wStep m.kd m.fi m.se m.ta gn go gl (sgO b) bank w0 k).2)) := by
          intro dn edn
          refine wr_cv3 (k' := 104) (ci := 9) rfl rfl rfl rfl (by assumption) rfl rfl (gw_stride w hb hN (by omega)) (fun r h2 q => ?_)
          obtain ⟨rfl, w⟩ := q
          dsimp only [Option.toList, List.nil_append]
          rw [eS] at w
          rw [show (k : Int) + 1 = ((k + 1 : Nat) : Int) by omega]
          refine GO _ (updS S1 b (wStride w0.s (m.kd k) (m.fi k) dn)) F1 _ _ _ _ (by rw [eW]) (by rw [eW, hS, updS_2, edn]) ?_ (by rw [eW]; exact v6) (by rw [eW]; exact v11) K
          rw [eW]
          exact w
        by_cases k2 : m.kd k = 2
        ·
          refine wr_iload rfl rfl rfl ?_
          refine wr_bipush rfl rfl (by decide) ?_
          refine wr_icmp_ne rfl rfl rfl (by omega) (by omega) (fun c80 => ?_) (fun c80 => by exfalso; omega)
          refine wr_iload rfl rfl rfl ?_
          refine wr_bipush rfl rfl (by decide) ?_
          refine wr_icmp_lt rfl rfl rfl (by omega) (by omega) (fun c98 => ?_) (fun c98 => by exfalso; omega)
          refine wr_iload rfl rfl rfl ?_
          refine wr_iconst rfl rfl ?_
          refine wr_icmp_ne rfl rfl rfl (by omega) (by omega) (fun c147 => ?_) (fun c147 => by exfalso; omega)
          refine wr_iload rfl rfl rfl ?_
          refine wr_iconst rfl rfl ?_
          refine wr_icmp_ne rfl rfl rfl (by omega) (by omega) (fun c166 => ?_) (fun c166 => by exfalso; omega)
          refine wr_aload_n rfl rfl rfl ?_
          refine wr_iload rfl rfl rfl ?_
          refine wr_iload rfl rfl rfl ?_
          refine wr_i2l rfl rfl (by omega) ?_
          refine wr_iload rfl rfl rfl ?_
          refine wr_iconst rfl rfl ?_
          refine wr_icmp_ne rfl rfl rfl (by omega) (by omega) (fun c185 => by exfalso; omega) (fun c185 => ?_)
          refine wr_aload_n rfl rfl rfl ?_
          refine wr_get (ci := 9) (f := 3) rfl rfl rfl (by assumption) rfl ?_
          refine wr_get (ci := 7) (f := 0) rfl rfl rfl (by assumption) rfl ?_
          refine wr_ineg rfl rfl ?_
          refine wr_iload rfl rfl rfl ?_
          refine wr_imul rfl rfl ?_
          refine wr_i2l rfl rfl (by omega) ?_
          refine wr_goto rfl rfl ?_
          exact Y _ (by rw [if_pos k2])
        ·
          refine wr_iload rfl rfl rfl ?_
          refine wr_bipush rfl rfl (by decide) ?_
          refine wr_icmp_ne rfl rfl rfl (by omega) (by omega) (fun c80 => ?_) (fun c80 => by exfalso; omega)
          refine wr_iload rfl rfl rfl ?_
          refine wr_bipush rfl rfl (by decide) ?_
          refine wr_icmp_lt rfl rfl rfl (by omega) (by omega) (fun c98 => ?_) (fun c98 => by exfalso; omega)
          refine wr_iload rfl rfl rfl ?_
          refine wr_iconst rfl rfl ?_
          refine wr_icmp_ne rfl rfl rfl (by omega) (by omega) (fun c147 => ?_) (fun c147 => by exfalso; omega)
          refine wr_iload rfl rfl rfl ?_
          refine wr_iconst rfl rfl ?_
          refine wr_icmp_ne rfl rfl rfl (by omega) (by omega) (fun c166 => ?_) (fun c166 => by exfalso; omega)
          refine wr_aload_n rfl rfl rfl ?_
          refine wr_iload rfl rfl rfl ?_
          refine wr_iload rfl rfl rfl ?_
          refine wr_i2l rfl rfl (by omega) ?_
          refine wr_iload rfl rfl rfl ?_
          refine wr_iconst rfl rfl ?_
          refine wr_icmp_ne rfl rfl rfl (by omega) (by omega) (fun c185 => ?_) (fun c185 => by exfalso; omega)
          refine wr_iload rfl rfl rfl ?_
          refine wr_i2l rfl rfl (by omega) ?_
          exact Y _ (by rw [if_neg k2])
  have cwa := w.wa
  refine am_c.of (Nat.le_of_ble_eq_true rfl) ?_
  show am_w _ _ _ (_, [_, _, _, _, _, _, _, _, _, _, _, _], _, _) _
  refine wr_aload_n rfl rfl rfl ?_
  refine wr_aload_n rfl rfl rfl ?_
  refine wr_putR (ci := 9) (f := 3) (fs' := [_, _, _, _, _, _, _]) rfl rfl rfl (by assumption) rfl rfl rfl (fun h1 e1 => ?_)
  have w := e1 ▸ w.setK b
  clear e1
  have cwa := w.wa
  have cb0 := (w.sd hb).1
  have ct0 := (w.tm ht t18).1
  have es : (if tp = 0 then 0 else m.en (tp - 1)) = ((stOf m.en tp : Nat) : Int) := by
    unfold stOf
    split
    · rfl
    · have := g.mono (tp - 1) (by omega)
      omega
  refine wr_aload_n rfl rfl rfl ?_
  refine wr_iload_n rfl rfl rfl ?_
  refine wr_cv1 (k' := 60) (ci := 1) rfl rfl rfl rfl (by assumption) rfl rfl (wp_tstart (w.tm ht t18) (by omega)) (fun r h2 q => ?_)
  obtain ⟨rfl, hh⟩ := q
  rw [hh]
  clear hh h2
  dsimp only [Option.toList, List.cons_append, List.nil_append]
  rw [es]
  refine wr_istore (ls' := [_, _, _, _, _, _, _, _, _, _, _, _]) rfl rfl (Nat.le_of_ble_eq_true rfl) rfl ?_
  refine wr_aload_n rfl rfl rfl ?_
  refine wr_iload_n rfl rfl rfl ?_
  refine wr_cv1 (k' := 61) (ci := 1) rfl rfl rfl rfl (by assumption) rfl rfl (wp_tend (w.tm ht t18) (by omega)) (fun r h2 q => ?_)
  obtain ⟨rfl, hh⟩ := q
  rw [hh]
  clear hh h2
  dsimp only [Option.toList, List.cons_append, List.nil_append]
  rw [← een]
  refine wr_istore (ls' := [_, _, _, _, _, _, _, _, _, _, _, _]) rfl rfl (Nat.le_of_ble_eq_true rfl) rfl ?_
  refine wr_iconst rfl rfl ?_
  refine wr_istore (ls' := [_, _, _, _, _, _, _, _, _, _, _, _]) rfl rfl (Nat.le_of_ble_eq_true rfl) rfl ?_
  exact L 24 0 (stOf m.en tp) (WS.mk (S b) (F (b + 6)) (F (b + 11)) c tk) S F _ (by omega) ⟨oS, Nat.le_refl _, Nat.le_refl _, by show (S b).N + (c - c) ≤ _; omega⟩ (by omega) (by funext j; unfold updS; split <;> simp [*]) w rfl rfl (fun f _ _ _ _ _ => rfl)
end WAK
