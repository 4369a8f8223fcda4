/-! CALLS AND RETURNS -/
section AMC
variable {p : Program} {l : Launch} {e : Env} {R : Room} {s : State} {m : MethodId} {args : Array Value} {below : List Frame} {meth : Method} {c : Code} {Q : State → Prop}
variable {D : va_G} {dA : Nat → ClassId} {b0 base : Nat} {X : Nat × (Nat → Int32)} {k : Nat}
theorem am_callW {H : Heap} {locs : List Loc} {cells slots mc ms pc : Nat} {rl : Array Slot} {st0 rest : List Value} {r : Option Value} {h' : am_H} {a0 : Array Value} (hr : va_Run p l e R s m args below meth c H locs cells slots mc ms (F0 m pc rl st0) rest (am_Q D dA b0 base X r h' a0) (am_A base)) (hS : va_S (am_A base) s.heap H locs)
    (kk : ∀ (H1 : Heap) (locs1 : List Loc), am_Wd D dA b0 base h' H1 → va_S (am_A base) s.heap H1 locs1 → W p l e R s m args below meth c H1 locs1 (cells + mc) (slots + ms) Q (F0 m (pc + 3) rl ((r.map (am_v b0 base)).toList ++ rest))) : W p l e R s m args below meth c H locs cells slots Q (F0 m pc rl st0) := by
  intro T hT X0
  obtain ⟨v, st₀, t, T', L, h0, X', hL, e1, e2, ⟨⟨hv, hw⟩, hz, hk⟩, st⟩ := hr T hT X0
  cases hv
  rw [h0] at hz hk
  obtain ⟨t2, a1, b1⟩ := kk T'.heap (locs ++ L) (by rw [e1]; exact hw.1)
    ⟨Nat.le_trans hS.1 (by rw [e1]; exact hz), fun q h1 h2 => by rw [e1, hk q (Nat.lt_of_lt_of_le h1 hS.1) h2]; exact hS.2.1 q h1 h2, fun q hq => by
      rcases List.mem_append.mp hq with h | h
      · exact hS.2.2 q h
      · exact hL q h⟩ T' rfl X'
  exact ⟨t2, st t2 a1, b1⟩
theorem am_pc (Cx : am_Cx p s m args meth c D dA b0 base X k) {h : am_H} {H : Heap} {locs : List Loc} {av : List Value} (hW : am_Wd D dA b0 base h H) (hS : va_S (am_A base) s.heap H locs) : ∀ U : State, U.heap = H → s.WarmedH U.vm → va_Pc av (am_W0 D dA b0 base X h) av.toArray U := by
  obtain ⟨hx, hb, hml, hown, hts, hr, hlk, hin, hK, hN, hX, hb0, hbs⟩ := Cx
  intro U hU hWm
  refine ⟨rfl, by rw [hU]; exact hW, va_K.moved hWm.alike hK, am_NW_warm hWm hN, ?_, hb0⟩
  rw [hU]
  exact (hX.kept (hS.2.1 b0 (Nat.lt_of_lt_of_le hb0 hbs) (Nat.not_le.mpr hb0))).moved hWm.alike
set_option maxHeartbeats 16000000 in
/-- a call of the plain machine is one of the claim's -/
theorem am_k_call (Cx : am_Cx p s m args meth c D dA b0 base X k) {n0 z0 nl pc len : Nat} {ls st : List Value} {h : am_H} {i : Instr} (hdg : decode (am_bytes k) pc = .ok (i, len)) (hlen : am_len i = 0 ∨ len = am_len i)
    {k' : Nat} {as st' : List Value} {h' : am_H} {r : Option Value} (hcl : am_cl k i pc ls st h = some (k', as, (pc + 3, ls, st', h))) (hM : am_mok k' → am_Met l D dA b0 base X k' as h r h') (hm1 : h.length ≤ h'.length) (hm2 : am_sz h ≤ am_sz h')
    (hR1 : h'.length ≤ R.cells + n0) (hR2 : am_sz h' ≤ R.slots + z0) (hfr : am_fr k ≤ R.frames) (hlo : am_lc k ≤ R.locals) (hnl : nl = am_mxl k) (kk : am_Go p l e R s m args below meth c Q D dA b0 base n0 z0 nl (pc + 3, ls, r.toList ++ st', h')) : am_Go p l e R s m args below meth c Q D dA b0 base n0 z0 nl (pc, ls, st, h) := by
  have Cx0 := Cx
  obtain ⟨hx, hb, hml, hown, hts, hr, hlk, hin, hK, hN, hX, hb0, hbs⟩ := Cx
  intro H locs rl cells slots hW hS hl hn hc hz
  have hW : am_Wd D dA b0 base h H := hW
  have hc : cells + n0 = h.length := hc
  have hz : slots + z0 = am_sz h := hz
  have hn : ls.length = nl := hn
  have hsz : rl.size = am_mxl k := by rw [hl.size, ← hnl]; exact hn
  have fin : ∀ (H1 : Heap) (locs1 : List Loc), am_Wd D dA b0 base h' H1 → va_S (am_A base) s.heap H1 locs1 → W p l e R s m args below meth c H1 locs1 (cells + (h'.length - h.length)) (slots + (am_sz h' - am_sz h)) Q (F0 m (pc + 3) rl ((r.map (am_v b0 base)).toList ++ st'.map (am_v b0 base))) := by
    intro H1 locs1 hW1 hS1
    have := kk H1 locs1 rl (cells + (h'.length - h.length)) (slots + (am_sz h' - am_sz h)) hW1 hS1 hl hn (by show _ = h'.length; omega) (by show _ = am_sz h'; omega)
    have e4 : ((r.toList ++ st').map (am_v b0 base)) = (r.map (am_v b0 base)).toList ++ st'.map (am_v b0 base) := by cases r <;> simp
    rw [← e4]
    exact this
  have room : am_may k k' = true → (am_rm k' (h'.length - h.length) (am_sz h' - am_sz h)).frames + 1 ≤ R.frames ∧ 8 + (am_mxl k' + 11) + (am_rm k' (h'.length - h.length) (am_sz h' - am_sz h)).locals ≤ R.locals := by
    intro hmay
    unfold am_may at hmay
    rw [Bool.and_eq_true] at hmay
    have g1 := Nat.le_of_ble_eq_true hmay.1
    have g2 := Nat.le_of_ble_eq_true hmay.2
    refine ⟨Nat.le_trans g1 hfr, ?_⟩
    show 8 + (am_mxl k' + 11) + am_lc k' ≤ R.locals
    omega
  have space : cells + (h'.length - h.length) ≤ R.cells ∧ slots + (am_sz h' - am_sz h) ≤ R.slots := by omega
  cases i <;> try (exact nomatch (show (none : Option (Nat × List Value × am_S)) = some _ from hcl))
  case invokestatic j =>
    obtain rfl : len = 3 := hlen.resolve_left (fun q => absurd q (by show ¬ (3 : Nat) = 0; decide))
    obtain ⟨np, hq, hmay, hnp, hlow, rfl, rfl, -, -, -⟩ := am_inv0 (show am_inv k 0 (am_met (am_own k) j) pc ls st h = some _ from hcl)
    obtain ⟨hmk, hpar, hlink, hst, -, -⟩ := am_met_ok hq (by decide)
    have hG := am_good hmk
    have hM' : Met l (am_name k') (am_wsm k') (am_rm k' (h'.length - h.length) (am_sz h' - am_sz h)) (va_Pc (((st.take np).reverse).map (am_v b0 base)) (am_W0 D dA b0 base X h)) (am_Q D dA b0 base X r h') (h'.length - h.length) (am_sz h' - am_sz h) (am_A base) := hM hmk
    have hn' : (((st.take np).reverse).map (am_v b0 base)).length = np := by rw [List.length_map, List.length_reverse, List.length_take]; omega
    have hstack : (F0 m pc rl (st.map (am_v b0 base))).stack = (((st.take np).reverse).map (am_v b0 base)).reverse ++ (st.drop np).map (am_v b0 base) := am_take_map b0 base st np
    rcases hlink with hlink | ⟨host, hlink⟩
    · exact am_callW (va_runS ⟨hx, hb, hml, hown, hts⟩ hM' ⟨callB_of np hts hG rfl rfl rfl (hts _ hmk.1) (hts _ hlink) ⟨hmk.2.2.1, hmk.2.2.2.1, hpar⟩ (room hmay), hts _ (hst rfl)⟩ ⟨am_blind, am_pc Cx0 hW hS⟩ rfl hn' hsz hstack (lv_room (am_low_map hlow)) hdg space) hS fin
    · exact am_callW (va_runSN ⟨hx, hb, hml, hown, hts⟩ hM' ⟨va_cnB np hts hG rfl rfl rfl (hN.2 _ hlink) (hts _ hmk.1) ⟨hmk.2.2.1, hmk.2.2.2.1, hpar⟩ (room hmay), hts _ (hst rfl), trivial⟩ ⟨am_blind, am_pc Cx0 hW hS⟩ rfl hn' hsz hstack (lv_room (am_low_map hlow)) hdg space) hS fin
  case invokevirtual j =>
    obtain rfl : len = 3 := hlen.resolve_left (fun q => absurd q (by show ¬ (3 : Nat) = 0; decide))
    obtain ⟨np, a, fs, hq, hmay, hnp, hdr, hcell, hlow, rfl, -, -, -⟩ := am_inv1 (show am_inv k 1 (am_met (am_own k) j) pc ls st h = some _ from hcl)
    obtain ⟨hmk, hpar, hlink, -, hvi, -⟩ := am_met_ok hq (by decide)
    obtain ⟨hinst, C, T, N, hcv, hsel⟩ := hvi rfl
    have hG := am_good hmk
    have hM' : Met l (am_name k') (am_wsm k') (am_rm k' (h'.length - h.length) (am_sz h' - am_sz h)) (va_Pc (.ref (base + a) :: ((st.take np).reverse).map (am_v b0 base)) (am_W0 D dA b0 base X h)) (am_Q D dA b0 base X r h') (h'.length - h.length) (am_sz h' - am_sz h) (am_A base) := hM hmk
    have hn' : (((st.take np).reverse).map (am_v b0 base)).length = np := by rw [List.length_map, List.length_reverse, List.length_take]; omega
    have hstack : (F0 m pc rl (st.map (am_v b0 base))).stack = (((st.take np).reverse).map (am_v b0 base)).reverse ++ .ref (base + a) :: st'.map (am_v b0 base) := by
      have := am_take_map b0 base st np
      rw [hdr] at this
      exact this
    have hpre : PreV s H C (base + a) (va_Pc (.ref (base + a) :: ((st.take np).reverse).map (am_v b0 base)) (am_W0 D dA b0 base X h)) (((st.take np).reverse).map (am_v b0 base)) := ⟨am_blind, va_recv hK hW.2 hcv (hW.cell hcell), am_pc Cx0 hW hS⟩
    rcases hlink with hlink | ⟨host, hlink⟩
    · exact am_callW (va_runV ⟨hx, hb, hml, hown, hts⟩ hM' ⟨callB_of np hts hG rfl rfl rfl (hts _ hmk.1) (hts _ hlink) ⟨hmk.2.2.1, hmk.2.2.2.1, hpar⟩ (room hmay), hts _ hinst, hts _ hsel⟩ hpre rfl hn' hsz hstack (lv_room (am_low_map hlow)) hdg space) hS fin
    · exact am_callW (va_runVN ⟨hx, hb, hml, hown, hts⟩ hM' ⟨va_cnB np hts hG rfl rfl rfl (hN.2 _ hlink) (hts _ hmk.1) ⟨hmk.2.2.1, hmk.2.2.2.1, hpar⟩ (room hmay), hts _ hinst, hts _ hsel⟩ hpre rfl hn' hsz hstack (lv_room (am_low_map hlow)) hdg space) hS fin
  case invokespecial j =>
    obtain rfl : len = 3 := hlen.resolve_left (fun q => absurd q (by show ¬ (3 : Nat) = 0; decide))
    obtain ⟨np, a, hq, hmay, hnp, hdr, hlow, rfl, -, -, -⟩ := am_inv2 (show am_inv k 2 (am_met (am_own k) j) pc ls st h = some _ from hcl)
    obtain ⟨hmk, hpar, hlink, -, -, hii⟩ := am_met_ok hq (by decide)
    obtain ⟨hinst, hnm, hret⟩ := hii rfl
    have hG := am_good hmk
    have hM' : Met l (am_name k') (am_wsm k') (am_rm k' (h'.length - h.length) (am_sz h' - am_sz h)) (va_Pc (.ref (base + a) :: ((st.take np).reverse).map (am_v b0 base)) (am_W0 D dA b0 base X h)) (am_Q D dA b0 base X r h') (h'.length - h.length) (am_sz h' - am_sz h) (am_A base) := hM hmk
    have hws : am_wsm k' = Cond.code (am_name k') (am_bytes k') (am_mxl k') none :: am_WT := by unfold am_wsm; rw [hret]
    have hn' : (((st.take np).reverse).map (am_v b0 base)).length = np := by rw [List.length_map, List.length_reverse, List.length_take]; omega
    have hstack : (F0 m pc rl (st.map (am_v b0 base))).stack = (((st.take np).reverse).map (am_v b0 base)).reverse ++ .ref (base + a) :: st'.map (am_v b0 base) := by
      have := am_take_map b0 base st np
      rw [hdr] at this
      exact this
    have hpre : PreS s H (va_Pc (.ref (base + a) :: ((st.take np).reverse).map (am_v b0 base)) (am_W0 D dA b0 base X h)) (.ref (base + a) :: ((st.take np).reverse).map (am_v b0 base)) := ⟨am_blind, am_pc Cx0 hW hS⟩
    rcases hlink with hlink | ⟨host, hlink⟩
    · exact am_callW (va_runI ⟨hx, hb, hml, hown, hts⟩ hM' ⟨callB_of np hts hG hws rfl rfl (hts _ hmk.1) (hts _ hlink) ⟨hmk.2.2.1, hmk.2.2.2.1, hpar⟩ (room hmay), hnm, hts _ hinst⟩ hpre rfl hn' hsz hstack (lv_room (am_low_map hlow)) hdg space) hS fin
    · exact am_callW (va_runIN ⟨hx, hb, hml, hown, hts⟩ hM' ⟨va_cnB np hts hG hws rfl rfl (hN.2 _ hlink) (hts _ hmk.1) ⟨hmk.2.2.1, hmk.2.2.2.1, hpar⟩ (room hmay), hnm, hts _ hinst⟩ hpre rfl hn' hsz hstack (lv_room (am_low_map hlow)) hdg space) hS fin
/-- a return of the plain machine is one of the claim's -/
theorem am_k_ret (Cx : am_Cx p s m args meth c D dA b0 base X k) {n0 z0 nl pc len : Nat} {ls st : List Value} {h h' : am_H} {i : Instr} {r : Option Value} (hdg : decode (am_bytes k) pc = .ok (i, len)) (hlen : am_len i = 0 ∨ len = am_len i) (hrt : am_rt k i st h = some (r, h')) :
    am_Go p l e R s m args below meth c (MQ below (am_Q D dA b0 base X r h') args s (h'.length - n0) (am_sz h' - z0) (am_A base)) D dA b0 base n0 z0 nl (pc, ls, st, h) := by
  have Cx0 := Cx
  obtain ⟨hx, hb, hml, hown, hts, hr, hlk, hin, hK, hN, hX, hb0, hbs⟩ := Cx
  intro H locs rl cells slots hW hS hl hn hc hz
  have hc : cells + n0 = h.length := hc
  have hz : slots + z0 = am_sz h := hz
  have qq : h' = h → ∀ t : State, t.heap = H → s.WarmedH t.vm → am_Q D dA b0 base X r h' args s (.returned (r.map (am_v b0 base))) t := by
    intro e1 t ht hWm
    subst e1
    exact ⟨⟨rfl, (am_pc Cx0 (av := []) hW hS t ht hWm).2⟩, hS.F ht⟩
  have hcl : h' = h → cells = h'.length - n0 ∧ slots = am_sz h' - z0 := by
    intro e1
    subst e1
    omega
  cases i <;> try (exact nomatch (show (none : Option (Option Value × am_H)) = some _ from hrt))
  case ireturn =>
    obtain rfl : len = 1 := hlen.resolve_left (fun q => absurd q (by show ¬ (1 : Nat) = 0; decide))
    simp only [am_rt] at hrt
    split at hrt
    · rename_i v
      split at hrt
      · rename_i ty hty
        split at hrt
        · rename_i hnr
          cases hrt
          obtain ⟨e1, e2⟩ := hcl rfl
          subst e1 e2
          exact W.zret hx hb (hr.trans hty) hnr (qq rfl) hS.2.2 hdg hlk
        · cases hrt
      · cases hrt
    · cases hrt
  case lreturn =>
    obtain rfl : len = 1 := hlen.resolve_left (fun q => absurd q (by show ¬ (1 : Nat) = 0; decide))
    simp only [am_rt] at hrt
    split at hrt
    · split at hrt
      · rename_i hty
        cases hrt
        obtain ⟨e1, e2⟩ := hcl rfl
        subst e1 e2
        exact W.lret hx hb (hr.trans hty) (qq rfl) hS.2.2 hdg hlk
      · cases hrt
    · cases hrt
  case areturn =>
    obtain rfl : len = 1 := hlen.resolve_left (fun q => absurd q (by show ¬ (1 : Nat) = 0; decide))
    simp only [am_rt] at hrt
    split at hrt
    · split at hrt
      · rename_i hty
        cases hrt
        obtain ⟨e1, e2⟩ := hcl rfl
        subst e1 e2
        exact W.aret hx hb (hr.trans hty) (Or.inl ⟨_, rfl⟩) (Or.inr ⟨_, rfl⟩) (qq rfl) hS.2.2 hdg hlk
      · rename_i hty
        cases hrt
        obtain ⟨e1, e2⟩ := hcl rfl
        subst e1 e2
        exact W.aret hx hb (hr.trans hty) (Or.inr ⟨_, rfl⟩) (Or.inr ⟨_, rfl⟩) (qq rfl) hS.2.2 hdg hlk
      · cases hrt
    · cases hrt
  case return_ =>
    obtain rfl : len = 1 := hlen.resolve_left (fun q => absurd q (by show ¬ (1 : Nat) = 0; decide))
    simp only [am_rt] at hrt
    split at hrt
    · split at hrt
      · rename_i hty
        cases hrt
        obtain ⟨e1, e2⟩ := hcl rfl
        subst e1 e2
        exact W.vret hx hb (hr.trans hty) (qq rfl) hS.2.2 hdg hlk
      · cases hrt
    · cases hrt
end AMC
