/-! THE ROOM; ROWS FOR THE 208 -/
section RUC
variable {X : Nat × (Nat → Int32)} {d k pc pc' : Nat} {ls st : List Value} {h : am_H} {Q : Option Value → am_H → Prop} {z : PS}
/-- the script's int j -/
def xs (X : Nat × (Nat → Int32)) (j : Nat) : Int := (X.2 j).toInt
theorem i32_rg (x : Int32) : -2147483648 ≤ x.toInt ∧ x.toInt ≤ 2147483647 := by
  have := x.le_toInt
  have := x.toInt_lt
  omega
theorem i64_rg (x : Int64) : -9223372036854775808 ≤ x.toInt ∧ x.toInt ≤ 9223372036854775807 := by
  have := x.le_toInt
  have := x.toInt_lt
  omega
theorem xs_in (X : Nat × (Nat → Int32)) (j : Nat) : -2147483648 ≤ xs X j ∧ xs X j ≤ 2147483647 := i32_rg _
theorem iI_to (x : Int32) : iI x.toInt = x := Int32.ofInt_toInt x
theorem lI_to (x : Int64) : lI x.toInt = x := Int64.ofInt_toInt x
theorem wr_ialZ {j : Int} (hi : am_code k pc = some (.iaload)) (hp : pc + 1 = pc') (hj : 0 ≤ j ∧ j < X.1) (hn : (X.1 : Int) ≤ 2147483648) (kk : am_w X d k (pc', ls, .int (iI (xs X j.toNat)) :: st, h) Q) : am_w X d k (pc, ls, .int (iI j) :: am_X :: st, h) Q := by
  refine wr_ialX hi hp hj hn ?_
  have e : iI (xs X j.toNat) = X.2 j.toNat := iI_to _
  rw [e] at kk
  exact kk
theorem wr_iand {a b : Int} (hi : am_code k pc = some (.iand)) (hp : pc + 1 = pc') (kk : am_w X d k (pc', ls, .int (iI (iI a &&& iI b).toInt) :: st, h) Q) : am_w X d k (pc, ls, .int (iI b) :: .int (iI a) :: st, h) Q := by
  subst hp
  rw [iI_to] at kk
  exact am_w.go hi rfl kk
theorem wr_icmp_sm {v : Int32} {off : Int} {t : Nat} (hi : am_code k pc = some (.if_icmp .eq off)) (hj : am_jmp pc off = some t) (kt : am_w X d k (t, ls, st, h) Q) : am_w X d k (pc, ls, .int v :: .int v :: st, h) Q := by
  have e := iI_to v
  rw [← e]
  exact wr_icmp_eq hi hj rfl (i32_rg v) (i32_rg v) (fun _ => kt) (fun c => absurd rfl c)
theorem wr_l_sm {v : Int64} {off : Int} {t pc1 : Nat} (hi : am_code k pc = some .lcmp) (hp1 : pc + 1 = pc1) (hi2 : am_code k pc1 = some (.ifCond .eq off)) (hj : am_jmp pc1 off = some t) (kt : am_w X d k (t, ls, st, h) Q) : am_w X d k (pc, ls, .long v :: .long v :: st, h) Q := by
  have e := lI_to v
  rw [← e]
  exact wr_l_eq hi hp1 hi2 hj rfl (i64_rg v) (i64_rg v) (fun _ => kt) (fun c => absurd rfl c)
/-! the cells' lengths -/
def bC (h : am_H) (lo up : Nat) : Prop := ∀ i, lo ≤ i → i ≤ up → ∃ c, h[i]? = some c ∧ am_cs c ≤ 400
theorem bC.one {i : Nat} {c : va_E} (hc : h[i]? = some c) (hs : am_cs c ≤ 400) : bC h i i := fun j a b => ⟨c, by rw [show j = i by omega]; exact hc, hs⟩
theorem bC.jn {a b b' c : Nat} (x : bC h a b) (y : bC h b' c) (e : b' = b + 1) : bC h a c := fun i h1 h2 => by
  by_cases q : i ≤ b
  · exact x i h1 q
  · exact y i (by omega) h2
theorem bC.o1 {i : Nat} {c : va_E} (hc : h[i]? = some c) (hs : Nat.ble (am_cs c) 400 = true) : bC h i i := bC.one hc (Nat.le_of_ble_eq_true hs)
theorem isW.bC {t l cap : Nat} {v : Int} (w : isW h t l cap v) (e : l = t + 1) (hc : cap ≤ 400) : bC h t l := by
  obtain ⟨g, n, a, b, -⟩ := w
  exact (bC.o1 a rfl).jn (bC.one b hc) e
theorem isF.bC {f cap : Nat} {q : Rat} (w : isF h f cap q) (hc : cap ≤ 400) : bC h f (f + 4) := ((bC.o1 w.1 rfl).jn (w.2.1.bC rfl hc) rfl).jn (w.2.2.bC rfl hc) rfl
theorem isG.bC {g n : Nat} {off lev : Nat → Int} (w : isG h g n off lev) : bC h g (g + 2) := ((bC.o1 w.1 rfl).jn (bC.o1 w.2.1 rfl) rfl).jn (bC.o1 w.2.2 rfl) rfl
theorem isT.bC {t : Nat} {m : Tm} (w : isT h t m) : bC h t (t + 5) := by
  obtain ⟨c0, c1, c2, c3, c4, c5⟩ := w
  exact (((((bC.o1 c0 rfl).jn (bC.o1 c1 rfl) rfl).jn (bC.o1 c2 rfl) rfl).jn (bC.o1 c3 rfl) rfl).jn (bC.o1 c4 rfl) rfl).jn (bC.o1 c5 rfl) rfl
theorem isR.bC {b t n p op : Nat} {T wt : Nat → Int} {wr : Int} (w : isR h b t T n p wr wt op) : bC h b (b + 2) := ((bC.o1 w.1 rfl).jn (bC.o1 w.2.1 rfl) rfl).jn (bC.o1 w.2.2 rfl) rfl
theorem isSc.bC {b : Nat} {sg : Int} {s : Sq} (w : isSc h b sg s) : bC h b (b + 5) := by
  obtain ⟨c0, c1, c2, c3, c4, c5⟩ := w
  exact (((((bC.o1 c0 rfl).jn (bC.o1 c1 rfl) rfl).jn (bC.o1 c2 rfl) rfl).jn (bC.o1 c3 rfl) rfl).jn (bC.o1 c4 rfl) rfl).jn (bC.o1 c5 rfl) rfl
theorem arX.bC {s : Nat} (w : arX h s) : bC h s (s + 22) := by
  obtain ⟨v, a, b⟩ := w
  intro i h1 h2
  by_cases q : i = s
  · exact ⟨_, by rw [q]; exact a, by show 11 ≤ 400; decide⟩
  · exact (b ((i - s - 1) / 2) (by omega)).bC (by omega) (by decide) i (by omega) (by omega)
theorem cr_lens (C : CR h z) : bC h 0 163 := by
  obtain ⟨⟨tp, dr, into, p, op, wr, wt, Md, c1, c2, c3, c4, c5, c6⟩, ws, as, st, ix, pl, S, F, W, G, -⟩ := C
  have tt : bC h 1 12 := by
    rcases c1 with ⟨rfl, rfl⟩ | ⟨rfl, rfl⟩
    · exact c3.bC.jn c4.bC rfl
    · exact c4.bC.jn c3.bC rfl
  have W1 : ∀ p, p ∈ LW → bC h p (p + 1) := fun p hp => (G.ww p hp).bC rfl (by decide)
  have F1 : ∀ f cap, (f, cap) ∈ LF → bC h f (f + 4) := fun f cap hp => (G.ff (f, cap) hp).bC (by
    have : ∀ p ∈ LF, p.2 ≤ 400 := by decide
    exact this _ hp)
  have s1 := G.se.1
  have s2 := G.se.2
  have x1 := (bC.o1 c2 rfl).jn tt rfl
  have x2 := x1.jn c5.bC rfl
  have x3 := x2.jn c6.bC rfl
  have x4 := x3.jn G.gr.bC rfl
  have x5 := x4.jn G.ar.bC rfl
  have x6 := x5.jn (bC.o1 s1 rfl) rfl
  have x7 := x6.jn G.sl.bC rfl
  have x8 := (x7.jn (F1 52 16 (by decide)) rfl).jn (F1 57 16 (by decide)) rfl
  have x9 := ((x8.jn G.sr.bC rfl).jn (F1 68 16 (by decide)) rfl).jn (F1 73 16 (by decide)) rfl
  have x10 := x9.jn (bC.o1 s2 rfl) rfl
  have x11 := x10.jn (bC.o1 G.wa rfl) rfl
  have x12 := ((x11.jn (F1 80 16 (by decide)) rfl).jn (F1 85 16 (by decide)) rfl).jn (F1 90 16 (by decide)) rfl
  have x13 := x12.jn (bC.o1 G.aa rfl) rfl
  have x14 := (((x13.jn (F1 96 100 (by decide)) rfl).jn (F1 101 100 (by decide)) rfl).jn (F1 106 16 (by decide)) rfl).jn (F1 111 16 (by decide)) rfl
  have x15 := ((x14.jn (F1 116 16 (by decide)) rfl).jn (F1 121 16 (by decide)) rfl).jn (F1 126 16 (by decide)) rfl
  have x16 := x15.jn (bC.o1 G.e1 rfl) rfl
  have x17 := (((x16.jn (W1 132 (by decide)) rfl).jn (W1 134 (by decide)) rfl).jn (W1 136 (by decide)) rfl).jn (W1 138 (by decide)) rfl
  have x18 := (x17.jn (F1 140 16 (by decide)) rfl).jn (bC.o1 G.e2 rfl) rfl
  have x19 := (((x18.jn (W1 146 (by decide)) rfl).jn (W1 148 (by decide)) rfl).jn (W1 150 (by decide)) rfl).jn (W1 152 (by decide)) rfl
  exact (x19.jn (F1 154 16 (by decide)) rfl).jn (F1 159 16 (by decide)) rfl
theorem sz_all {K : Nat} : ∀ {h : am_H}, (∀ c ∈ h, am_cs c ≤ K) → am_sz h ≤ K * h.length
  | [], _ => by simp [am_sz]
  | c :: r, q => by
    have a := q c (by simp)
    have b := sz_all (h := r) (fun x hx => q x (by simp [hx]))
    have e : am_sz (c :: r) = am_cs c + am_sz r := by simp [am_sz]
    rw [e, List.length_cons, Nat.mul_succ]
    omega
theorem room (C : CR h z) (R : RR h z) (l : h.length = 182) : am_sz h ≤ 7302250 := by
  have B := cr_lens C
  obtain ⟨o, F, A, ⟨V, S, ⟨li, s, w, Rg⟩, -⟩, -⟩ := R
  have key : ∀ i c, h[i]? = some c → (i ≤ 164 → am_cs c ≤ 400) ∧ am_cs c ≤ 67600 := by
    intro i c hc
    have il : i < 182 := by rw [← l]; exact (List.getElem?_eq_some_iff.mp hc).1
    by_cases i1 : i ≤ 163
    · obtain ⟨c', e, s'⟩ := B i (by omega) i1
      rw [hc] at e
      cases e
      exact ⟨fun _ => s', by omega⟩
    by_cases i2 : i = 164
    · subst i2
      have e := w.ob
      rw [hc] at e
      cases e
      exact ⟨fun _ => by show 39 ≤ 400; decide, by show 39 ≤ 67600; decide⟩
    refine ⟨fun q => by omega, ?_⟩
    by_cases i3 : i = 165
    · subst i3
      have e := w.li
      rw [hc] at e
      cases e
      exact Nat.le_refl _
    by_cases i4 : i = 166
    · subst i4
      have e := w.sz
      rw [hc] at e
      cases e
      show 260 ≤ 67600
      decide
    by_cases i5 : i = 179
    · subst i5
      have e := w.en
      rw [hc] at e
      cases e
      show 3 ≤ 67600
      decide
    have il2 : i = 167 ∨ i = 168 ∨ i = 169 ∨ i = 170 ∨ i = 171 ∨ i = 172 ∨ i = 173 ∨ i = 174 ∨ i = 175 ∨ i = 176 ∨ i = 177 ∨ i = 178 ∨ i = 180 ∨ i = 181 := by omega
    have fin : ∀ n, (i, n) ∈ LA → n ≤ 67600 → am_cs c ≤ 67600 := by
      intro n hn hl
      have e := w.ar (i, n) hn
      rw [hc] at e
      cases e
      exact hl
    rcases il2 with rfl | rfl | rfl | rfl | rfl | rfl | rfl | rfl | rfl | rfl | rfl | rfl | rfl | rfl
    · exact fin 130 (by decide) (by decide)
    · exact fin 400 (by decide) (by decide)
    · exact fin 300 (by decide) (by decide)
    · exact fin 300 (by decide) (by decide)
    · exact fin 300 (by decide) (by decide)
    · exact fin 300 (by decide) (by decide)
    · exact fin 14 (by decide) (by decide)
    · exact fin 8 (by decide) (by decide)
    · exact fin 12 (by decide) (by decide)
    · exact fin 12 (by decide) (by decide)
    · exact fin 3 (by decide) (by decide)
    · exact fin 26 (by decide) (by decide)
    · exact fin 24 (by decide) (by decide)
    · exact fin 20 (by decide) (by decide)
  have e : am_sz h = am_sz (h.take 165) + am_sz (h.drop 165) := by
    conv => lhs; rw [← List.take_append_drop 165 h]
    unfold am_sz
    rw [List.map_append, List.sum_append]
  have t1 := sz_all (h := h.take 165) (K := 400) (fun c hc => by
    obtain ⟨i, hi⟩ := List.mem_iff_getElem?.mp hc
    rw [List.getElem?_take] at hi
    split at hi
    · exact (key i c hi).1 (by omega)
    · cases hi)
  have t2 := sz_all (h := h.drop 165) (K := 67600) (fun c hc => by
    obtain ⟨i, hi⟩ := List.mem_iff_getElem?.mp hc
    rw [List.getElem?_drop] at hi
    exact (key _ c hi).2)
  have l1 : (h.take 165).length = 165 := by rw [List.length_take, l]; rfl
  have l2 : (h.drop 165).length = 17 := by rw [List.length_drop, l]
  rw [l1] at t1
  rw [l2] at t2
  omega
theorem CR.c0 (C : CR h z) : ∃ fs, h[0]? = some (.inr (0, fs)) := by
  obtain ⟨⟨tp, dr, into, p, op, wr, wt, Md, -, c, -⟩, -⟩ := C
  exact ⟨_, c⟩
theorem RR.c0 (C : RR h z) : ∃ fs, h[164]? = some (.inr (12, fs)) := by
  obtain ⟨o, F, A, w, -⟩ := C
  exact ⟨_, w.cO⟩
end RUC
