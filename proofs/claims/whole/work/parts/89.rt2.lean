/-! THE REFERENCE'S AREAS: a piece -/
theorem hf_p {s w : Rat} (hw : 0 < w) (hs : 0 ≤ s) : hfQ (s * w) = s * (w / 2) := by
  unfold hfQ
  have := Rat.mul_nonneg hs (Rat.le_of_lt hw)
  rw [if_neg (by grind)]
  grind
theorem hf_n {s w : Rat} (hw : 0 < w) (hs : s < 0) : hfQ (s * w) = -s * (w / 2) := by
  unfold hfQ
  have : 0 < (-s) * w := Rat.mul_pos (by grind) hw
  rw [if_pos (by grind)]
  grind
theorem pc_trap {a b w : Rat} (no : ¬ opp a b) (hw : 0 < w) : (a + b < 0 → pcC a b w = 0 ∧ pcF a b w = hfQ ((a + b) * w)) ∧ (¬ a + b < 0 → pcC a b w = hfQ ((a + b) * w) ∧ pcF a b w = 0) := by
  unfold pcC pcF
  rw [if_neg no, if_neg no]
  constructor
  · intro h
    rw [if_neg (by grind), if_neg (by grind), hf_n hw h]
    exact ⟨rfl, rfl⟩
  · intro h
    rw [hf_p hw (by grind)]
    by_cases c : 0 < a + b
    · rw [if_pos c, if_pos c]; exact ⟨rfl, rfl⟩
    · have : a + b = 0 := by grind
      rw [if_neg c, if_neg c, this]
      constructor <;> grind
theorem sq_w {z w s : Rat} (hz : z ≠ 0) (hw : 0 < w) (hs : 0 < s) : 0 < z * (w / s * z) := by
  have h1 : 0 < z * z := by
    by_cases c : 0 < z
    · exact Rat.mul_pos c c
    · have := Rat.mul_pos (a := -z) (b := -z) (by grind) (by grind)
      grind
  have h2 : 0 < w / s := by
    rw [Rat.div_def]
    exact Rat.mul_pos hw (Rat.inv_pos.mpr hs)
  have := Rat.mul_pos h1 h2
  grind
theorem tri_p {z w s : Rat} (hz : z ≠ 0) (hw : 0 < w) (hs : 0 < s) : hfQ (z * (w / s * z)) = z * z * (w / 2) / s := by
  have := sq_w hz hw hs
  unfold hfQ
  rw [if_neg (by grind)]
  grind
theorem tri_n {z w s : Rat} (hz : z ≠ 0) (hw : 0 < w) (hs : s < 0) : hfQ (z * (w / s * z)) = z * z * (w / 2) / (-s) := by
  have h := sq_w (s := -s) hz hw (by grind)
  have e : w / s = -(w / (-s)) := by grind
  have e2 : z * (w / s * z) = -(z * (w / (-s) * z)) := by rw [e]; grind
  unfold hfQ
  rw [if_pos (by grind), e2]
  grind
theorem pc_opp {a b w : Rat} (o : opp a b) (hw : 0 < w) : (0 < a → hfQ (a * (w / (a - b) * a)) = pcC a b w ∧ hfQ (b * (w / (a - b) * b)) = pcF a b w) ∧ (¬ 0 < a → hfQ (a * (w / (a - b) * a)) = pcF a b w ∧ hfQ (b * (w / (a - b) * b)) = pcC a b w) := by
  unfold pcC pcF
  rw [if_pos o, if_pos o]
  constructor
  · intro h
    rw [if_pos h, if_pos h, tri_p (by grind) hw (by grind), tri_p (by grind) hw (by grind)]
    exact ⟨rfl, rfl⟩
  · intro h
    have e : -(a - b) = b - a := by grind
    rw [if_neg h, if_neg h, tri_n (by grind) hw (by grind), tri_n (by grind) hw (by grind), e]
    exact ⟨rfl, rfl⟩
theorem prod_sg {s t : Int} (hs : -1 ≤ s ∧ s ≤ 1) (ht : -1 ≤ t ∧ t ≤ 1) : (-1 ≤ s * t ∧ s * t ≤ 1) ∧ (s * t < 0 ↔ (0 < s ∧ t < 0) ∨ (s < 0 ∧ 0 < t)) := by
  have h : s = -1 ∨ s = 0 ∨ s = 1 := by omega
  rcases h with rfl | rfl | rfl <;> constructor <;> omega
section RTC
variable {X : Nat × (Nat → Int32)} {h0 h h' : am_H} {o o' : Nat → Int} {A A' : Nat → Nat → Int} {F F0 F' : Nat → Rat} {n : Nat} {off lev : Nat → Int}
theorem rr_piece {d k : Nat} {a b u v x y ga gb : Rat} (W : FW h0 h o F0 A) (g : RG n off lev o A) (ok : okG n off lev) (hk : k ≤ 23) (va : F0 k = a) (vb : F0 (k + 1) = b) (vu : F0 (26 + k) = u) (vv : F0 (26 + k + 1) = v) (vx : F0 99 = x) (vy : F0 100 = y) (qa : qB 3 a) (qb : qB 3 b) (qu : qB 14 u) (qv : qB 14 v) (qx : qB 3 x) (qy : qB 3 y) (ab : a < b) (xy : x < y) (ea : ga = GrQ n off lev x - lnQ a b u v x) (eb : gb = GrQ n off lev y - lnQ a b u v y) (q1 : qB 2 ga) (q2 : qB 2 gb) (q52 : qB 97 (F0 52)) (q53 : qB 97 (F0 53)) : am_c X (d + 9) 187 [.ref 164, .int (iI k)] h (fun r h' => r = none ∧ ∃ F', FW h0 h' o F' A ∧ F' 52 = F0 52 + pcC ga gb (y - x) ∧ F' 53 = F0 53 + pcF ga gb (y - x) ∧ ∀ g, g ≠ 52 → g ≠ 53 → (g < 94 ∨ g = 99 ∨ g = 100) → F' g = F0 g) := by
  have w := W
  have cO := w.cO
  have wp : 0 < y - x := by grind
  have qw : qB (3 + 3 + 1) (y - x) := qy.sub qx
  refine am_c.of (Nat.le_of_ble_eq_true rfl) ?_
  show am_w _ _ _ (_, [_, _], _, _) _
  refine wr_aload_n rfl rfl rfl ?_
  refine wr_bipush rfl rfl (by decide) ?_
  refine wr_bipush rfl rfl (by decide) ?_
  refine wr_bipush rfl rfl (by decide) ?_
  refine wr_cv3 (k' := 181) (ci := 12) rfl rfl rfl rfl (by assumption) rfl rfl (fw_take (f := 98) (a := 100) (b := 99) (P := 3) (R := 3) w (by decide) (by decide) (by decide) (by rw [vy]; exact qy) (by rw [vx]; exact qx) (by decide)) (fun r h2 q => ?_)
  obtain ⟨rfl, w⟩ := q
  obtain ⟨F2, w, s2, m2⟩ := ff_ex w
  rw [vx, vy] at s2
  have cO := w.cO
  refine wr_aload_n rfl rfl rfl ?_
  refine wr_iload_n rfl rfl rfl ?_
  refine wr_bipush rfl rfl (by decide) ?_
  refine wr_bipush rfl rfl (by decide) ?_
  refine wr_cv3 (k' := 188) (ci := 12) rfl rfl rfl rfl (by assumption) rfl rfl (rr_between (f := 99) (k := k) (to := 96) w g ok hk (by decide) (by decide) ((m2 _ (by omega)).trans va) ((m2 _ (by omega)).trans vb) ((m2 _ (by omega)).trans vu) ((m2 _ (by omega)).trans vv) ((m2 _ (by decide)).trans vx) qa qb qu qv qx ab) (fun r h2 q => ?_)
  obtain ⟨rfl, F3, w, s3, m3⟩ := q
  rw [← ea] at s3
  have cO := w.cO
  have k3 : ∀ g, g ≠ 96 → g ≠ 98 → g < 104 → F3 g = F0 g := fun g a b c => by rw [m3 g a (by omega), m2 g b]
  refine wr_aload_n rfl rfl rfl ?_
  refine wr_iload_n rfl rfl rfl ?_
  refine wr_bipush rfl rfl (by decide) ?_
  refine wr_bipush rfl rfl (by decide) ?_
  refine wr_cv3 (k' := 188) (ci := 12) rfl rfl rfl rfl (by assumption) rfl rfl (rr_between (f := 100) (k := k) (to := 97) w g ok hk (by decide) (by decide) ((k3 _ (by omega) (by omega) (by omega)).trans va) ((k3 _ (by omega) (by omega) (by omega)).trans vb) ((k3 _ (by omega) (by omega) (by omega)).trans vu) ((k3 _ (by omega) (by omega) (by omega)).trans vv) ((k3 _ (by decide) (by decide) (by decide)).trans vy) qa qb qu qv qy ab) (fun r h2 q => ?_)
  obtain ⟨rfl, F4, w, s4, m4⟩ := q
  rw [← eb] at s4
  have cO := w.cO
  have k4 : ∀ g, g ≠ 96 → g ≠ 97 → g ≠ 98 → g < 104 → F4 g = F0 g := fun g a b c d => by rw [m4 g b (by omega), k3 g a c d]
  have v96 : F4 96 = ga := by rw [m4 96 (by decide) (by omega), s3]
  have v98 : F4 98 = y - x := by rw [m4 98 (by decide) (by omega), m3 98 (by decide) (by omega), s2]
  clear m2 m3 k3 s2 s3 ea eb
  obtain ⟨S, cS, hS⟩ := w.sg
  obtain ⟨sr6, sn6, sp6⟩ := hS 96 (by decide)
  obtain ⟨sr7, sn7, sp7⟩ := hS 97 (by decide)
  rw [v96] at sn6 sp6
  rw [s4] at sn7 sp7
  obtain ⟨pr, pn⟩ := prod_sg sr6 sr7
  have po : S 96 * S 97 < 0 ↔ opp ga gb := by
    rw [pn, sn6, sp6, sn7, sp7]
  clear pn
  obtain ⟨p, hp⟩ : ∃ p, p = S 96 * S 97 := ⟨_, rfl⟩
  rw [← hp] at pr po
  by_cases no : opp ga gb
  · have p0 := po.mpr no
    have pc := pc_opp no wp
    have nz : ga - gb ≠ 0 := by rcases no with c | c <;> grind
    refine wr_aload_n rfl rfl rfl ?_
    refine wr_get (ci := 12) (f := 2) rfl rfl rfl (by assumption) rfl ?_
    refine wr_bipush rfl rfl (by decide) ?_
    refine wr_iald rfl rfl (by assumption) (by omega) (by omega) ?_
    rw [show ((96 : Int)).toNat = 96 from rfl]
    refine wr_aload_n rfl rfl rfl ?_
    refine wr_get (ci := 12) (f := 2) rfl rfl rfl (by assumption) rfl ?_
    refine wr_bipush rfl rfl (by decide) ?_
    refine wr_iald rfl rfl (by assumption) (by omega) (by omega) ?_
    rw [show ((97 : Int)).toNat = 97 from rfl]
    refine wr_imul rfl rfl ?_
    rw [← hp]
    refine wr_if_lt rfl rfl rfl (by omega) (fun c43 => ?_) (fun c43 => by exfalso; omega)
    refine wr_aload_n rfl rfl rfl ?_
    refine wr_bipush rfl rfl (by decide) ?_
    refine wr_bipush rfl rfl (by decide) ?_
    refine wr_bipush rfl rfl (by decide) ?_
    refine wr_cv3 (k' := 181) (ci := 12) rfl rfl rfl rfl (by assumption) rfl rfl (fw_take (f := 101) (a := 96) (b := 97) (P := 2) (R := 2) w (by decide) (by decide) (by decide) (by rw [v96]; exact q1) (by rw [s4]; exact q2) (by decide)) (fun r h2 q => ?_)
    obtain ⟨rfl, w⟩ := q
    obtain ⟨F5, w, s5, m5⟩ := ff_ex w
    rw [v96, s4] at s5
    have cO := w.cO
    have q5 : qB (2 + 2 + 1) (ga - gb) := q1.sub q2
    refine wr_aload_n rfl rfl rfl ?_
    refine wr_bipush rfl rfl (by decide) ?_
    refine wr_bipush rfl rfl (by decide) ?_
    refine wr_bipush rfl rfl (by decide) ?_
    refine wr_cv3 (k' := 191) (ci := 12) rfl rfl rfl rfl (by assumption) rfl rfl (fw_over (f := 102) (a := 98) (b := 101) (P := 3 + 3 + 1) (R := 2 + 2 + 1) w (by decide) (by decide) (by decide) (by rw [m5 98 (by decide), v98]; exact qw) (by rw [s5]; exact q5) (by decide) (by rw [s5]; exact num_nz nz)) (fun r h2 q => ?_)
    obtain ⟨rfl, w⟩ := q
    obtain ⟨F6, w, s6, m6⟩ := ff_ex w
    rw [m5 98 (by decide), v98, s5] at s6
    have cO := w.cO
    have q6 : qB (3 + 3 + 1 + (2 + 2 + 1)) ((y - x) / (ga - gb)) := qw.quo q5 (num_nz nz)
    refine wr_aload_n rfl rfl rfl ?_
    refine wr_bipush rfl rfl (by decide) ?_
    refine wr_bipush rfl rfl (by decide) ?_
    refine wr_bipush rfl rfl (by decide) ?_
    refine wr_cv3 (k' := 176) (ci := 12) rfl rfl rfl rfl (by assumption) rfl rfl (fw_times (f := 101) (a := 102) (b := 96) (P := 3 + 3 + 1 + (2 + 2 + 1)) (R := 2) w (by decide) (by decide) (by decide) (by rw [s6]; exact q6) (by rw [m6 96 (by decide), m5 96 (by decide), v96]; exact q1) (by decide)) (fun r h2 q => ?_)
    obtain ⟨rfl, w⟩ := q
    obtain ⟨F7, w, s7, m7⟩ := ff_ex w
    rw [s6, m6 96 (by decide), m5 96 (by decide), v96] at s7
    have cO := w.cO
    have q7 : qB (3 + 3 + 1 + (2 + 2 + 1) + 2) ((y - x) / (ga - gb) * ga) := q6.mul q1
    have q7' : qB (3 + 3 + 1 + (2 + 2 + 1) + 2) ((y - x) / (ga - gb) * gb) := q6.mul q2
    have v7 : F7 96 = ga := by rw [m7 96 (by decide), m6 96 (by decide), m5 96 (by decide), v96]
    have u7 : F7 97 = gb := by rw [m7 97 (by decide), m6 97 (by decide), m5 97 (by decide), s4]
    have r7 : F7 102 = (y - x) / (ga - gb) := by rw [m7 102 (by decide), s6]
    have k7 : ∀ g, g ≠ 96 → g ≠ 97 → g ≠ 98 → g ≠ 101 → g ≠ 102 → g < 104 → F7 g = F0 g := fun g a b c d e f => by rw [m7 g d, m6 g e, m5 g d, k4 g a b c f]
    obtain ⟨S2, cS, hS⟩ := w.sg
    obtain ⟨tr6, tn6, tp6⟩ := hS 96 (by decide)
    rw [v7] at tn6 tp6
    by_cases ap : 0 < ga
    · have bn : ¬ 0 < gb := by rcases no with c | c <;> grind
      have t0 := tp6.mpr ap
      obtain ⟨p1, p2⟩ := pc.1 ap
      refine wr_aload_n rfl rfl rfl ?_
      refine wr_aload_n rfl rfl rfl ?_
      refine wr_get (ci := 12) (f := 2) rfl rfl rfl (by assumption) rfl ?_
      refine wr_bipush rfl rfl (by decide) ?_
      refine wr_iald rfl rfl (by assumption) (by omega) (by omega) ?_
      rw [show ((96 : Int)).toNat = 96 from rfl]
      refine wr_if_le rfl rfl rfl (by omega) (fun c120 => by exfalso; omega) (fun c120 => ?_)
      refine wr_bipush rfl rfl (by decide) ?_
      refine wr_goto rfl rfl ?_
      refine wr_bipush rfl rfl (by decide) ?_
      refine wr_bipush rfl rfl (by decide) ?_
      refine wr_cv3 (k' := 192) (ci := 12) rfl rfl rfl rfl (by assumption) rfl rfl (rr_addHalf (t := 52) (a := 96) (b := 101) w (by decide) (by decide) (by decide) v7 s7 q1 q7 (by rw [k7 52 (by decide) (by decide) (by decide) (by decide) (by decide) (by decide)]; exact q52) (by decide)) (fun r h2 q => ?_)
      obtain ⟨rfl, F8, w, s8, m8⟩ := q
      have cO := w.cO
      refine wr_aload_n rfl rfl rfl ?_
      refine wr_bipush rfl rfl (by decide) ?_
      refine wr_bipush rfl rfl (by decide) ?_
      refine wr_bipush rfl rfl (by decide) ?_
      refine wr_cv3 (k' := 176) (ci := 12) rfl rfl rfl rfl (by assumption) rfl rfl (fw_times (f := 101) (a := 102) (b := 97) (P := 3 + 3 + 1 + (2 + 2 + 1)) (R := 2) w (by decide) (by decide) (by decide) (by rw [m8 102 (by decide) (by decide) (by decide), r7]; exact q6) (by rw [m8 97 (by decide) (by decide) (by decide), u7]; exact q2) (by decide)) (fun r h2 q => ?_)
      obtain ⟨rfl, w⟩ := q
      obtain ⟨F9, w, s9, m9⟩ := ff_ex w
      rw [m8 102 (by decide) (by decide) (by decide), r7, m8 97 (by decide) (by decide) (by decide), u7] at s9
      have cO := w.cO
      have u9 : F9 97 = gb := by rw [m9 97 (by decide), m8 97 (by decide) (by decide) (by decide), u7]
      obtain ⟨S3, cS, hS⟩ := w.sg
      obtain ⟨ur, un, up⟩ := hS 97 (by decide)
      rw [u9] at un up
      have t1 : ¬ 0 < S3 97 := fun q => bn (up.mp q)
      refine wr_aload_n rfl rfl rfl ?_
      refine wr_aload_n rfl rfl rfl ?_
      refine wr_get (ci := 12) (f := 2) rfl rfl rfl (by assumption) rfl ?_
      refine wr_bipush rfl rfl (by decide) ?_
      refine wr_iald rfl rfl (by assumption) (by omega) (by omega) ?_
      rw [show ((97 : Int)).toNat = 97 from rfl]
      refine wr_if_le rfl rfl rfl (by omega) (fun c155 => ?_) (fun c155 => by exfalso; omega)
      refine wr_bipush rfl rfl (by decide) ?_
      refine wr_bipush rfl rfl (by decide) ?_
      refine wr_bipush rfl rfl (by decide) ?_
      refine wr_cv3 (k' := 192) (ci := 12) rfl rfl rfl rfl (by assumption) rfl rfl (rr_addHalf (t := 53) (a := 97) (b := 101) w (by decide) (by decide) (by decide) u9 s9 q2 q7' (by rw [m9 53 (by decide), m8 53 (by decide) (by decide) (by decide), k7 53 (by decide) (by decide) (by decide) (by decide) (by decide) (by decide)]; exact q53) (by decide)) (fun r h2 q => ?_)
      obtain ⟨rfl, F10, w, s10, m10⟩ := q
      refine wr_vret rfl rfl ?_
      refine ⟨rfl, F10, w, ?_, ?_, fun g a b c => ?_⟩
      · rw [m10 52 (by decide) (by decide) (by decide), m9 52 (by decide), s8, p1, k7 52 (by decide) (by decide) (by decide) (by decide) (by decide) (by decide)]
      · rw [s10, p2, m9 53 (by decide), m8 53 (by decide) (by decide) (by decide), k7 53 (by decide) (by decide) (by decide) (by decide) (by decide) (by decide)]
      · rw [m10 g b (by omega) (by omega), m9 g (by omega), m8 g a (by omega) (by omega), k7 g (by omega) (by omega) (by omega) (by omega) (by omega) (by omega)]
    · have bn : 0 < gb := by rcases no with c | c <;> grind
      have t0 : ¬ 0 < S2 96 := fun q => ap (tp6.mp q)
      obtain ⟨p1, p2⟩ := pc.2 ap
      refine wr_aload_n rfl rfl rfl ?_
      refine wr_aload_n rfl rfl rfl ?_
      refine wr_get (ci := 12) (f := 2) rfl rfl rfl (by assumption) rfl ?_
      refine wr_bipush rfl rfl (by decide) ?_
      refine wr_iald rfl rfl (by assumption) (by omega) (by omega) ?_
      rw [show ((96 : Int)).toNat = 96 from rfl]
      refine wr_if_le rfl rfl rfl (by omega) (fun c120 => ?_) (fun c120 => by exfalso; omega)
      refine wr_bipush rfl rfl (by decide) ?_
      refine wr_bipush rfl rfl (by decide) ?_
      refine wr_bipush rfl rfl (by decide) ?_
      refine wr_cv3 (k' := 192) (ci := 12) rfl rfl rfl rfl (by assumption) rfl rfl (rr_addHalf (t := 53) (a := 96) (b := 101) w (by decide) (by decide) (by decide) v7 s7 q1 q7 (by rw [k7 53 (by decide) (by decide) (by decide) (by decide) (by decide) (by decide)]; exact q53) (by decide)) (fun r h2 q => ?_)
      obtain ⟨rfl, F8, w, s8, m8⟩ := q
      have cO := w.cO
      refine wr_aload_n rfl rfl rfl ?_
      refine wr_bipush rfl rfl (by decide) ?_
      refine wr_bipush rfl rfl (by decide) ?_
      refine wr_bipush rfl rfl (by decide) ?_
      refine wr_cv3 (k' := 176) (ci := 12) rfl rfl rfl rfl (by assumption) rfl rfl (fw_times (f := 101) (a := 102) (b := 97) (P := 3 + 3 + 1 + (2 + 2 + 1)) (R := 2) w (by decide) (by decide) (by decide) (by rw [m8 102 (by decide) (by decide) (by decide), r7]; exact q6) (by rw [m8 97 (by decide) (by decide) (by decide), u7]; exact q2) (by decide)) (fun r h2 q => ?_)
      obtain ⟨rfl, w⟩ := q
      obtain ⟨F9, w, s9, m9⟩ := ff_ex w
      rw [m8 102 (by decide) (by decide) (by decide), r7, m8 97 (by decide) (by decide) (by decide), u7] at s9
      have cO := w.cO
      have u9 : F9 97 = gb := by rw [m9 97 (by decide), m8 97 (by decide) (by decide) (by decide), u7]
      obtain ⟨S3, cS, hS⟩ := w.sg
      obtain ⟨ur, un, up⟩ := hS 97 (by decide)
      rw [u9] at un up
      have t1 : 0 < S3 97 := up.mpr bn
      refine wr_aload_n rfl rfl rfl ?_
      refine wr_aload_n rfl rfl rfl ?_
      refine wr_get (ci := 12) (f := 2) rfl rfl rfl (by assumption) rfl ?_
      refine wr_bipush rfl rfl (by decide) ?_
      refine wr_iald rfl rfl (by assumption) (by omega) (by omega) ?_
      rw [show ((97 : Int)).toNat = 97 from rfl]
      refine wr_if_le rfl rfl rfl (by omega) (fun c155 => by exfalso; omega) (fun c155 => ?_)
      refine wr_bipush rfl rfl (by decide) ?_
      refine wr_goto rfl rfl ?_
      refine wr_bipush rfl rfl (by decide) ?_
      refine wr_bipush rfl rfl (by decide) ?_
      refine wr_cv3 (k' := 192) (ci := 12) rfl rfl rfl rfl (by assumption) rfl rfl (rr_addHalf (t := 52) (a := 97) (b := 101) w (by decide) (by decide) (by decide) u9 s9 q2 q7' (by rw [m9 52 (by decide), m8 52 (by decide) (by decide) (by decide), k7 52 (by decide) (by decide) (by decide) (by decide) (by decide) (by decide)]; exact q52) (by decide)) (fun r h2 q => ?_)
      obtain ⟨rfl, F10, w, s10, m10⟩ := q
      refine wr_vret rfl rfl ?_
      refine ⟨rfl, F10, w, ?_, ?_, fun g a b c => ?_⟩
      · rw [s10, p2, m9 52 (by decide), m8 52 (by decide) (by decide) (by decide), k7 52 (by decide) (by decide) (by decide) (by decide) (by decide) (by decide)]
      · rw [m10 53 (by decide) (by decide) (by decide), m9 53 (by decide), s8, p1, k7 53 (by decide) (by decide) (by decide) (by decide) (by decide) (by decide)]
      · rw [m10 g a (by omega) (by omega), m9 g (by omega), m8 g b (by omega) (by omega), k7 g (by omega) (by omega) (by omega) (by omega) (by omega) (by omega)]
  · have p0 : ¬ p < 0 := fun q => no (po.mp q)
    have pc := pc_trap no wp
    refine wr_aload_n rfl rfl rfl ?_
    refine wr_get (ci := 12) (f := 2) rfl rfl rfl (by assumption) rfl ?_
    refine wr_bipush rfl rfl (by decide) ?_
    refine wr_iald rfl rfl (by assumption) (by omega) (by omega) ?_
    rw [show ((96 : Int)).toNat = 96 from rfl]
    refine wr_aload_n rfl rfl rfl ?_
    refine wr_get (ci := 12) (f := 2) rfl rfl rfl (by assumption) rfl ?_
    refine wr_bipush rfl rfl (by decide) ?_
    refine wr_iald rfl rfl (by assumption) (by omega) (by omega) ?_
    rw [show ((97 : Int)).toNat = 97 from rfl]
    refine wr_imul rfl rfl ?_
    rw [← hp]
    refine wr_if_lt rfl rfl rfl (by omega) (fun c43 => by exfalso; omega) (fun c43 => ?_)
    refine wr_aload_n rfl rfl rfl ?_
    refine wr_bipush rfl rfl (by decide) ?_
    refine wr_bipush rfl rfl (by decide) ?_
    refine wr_bipush rfl rfl (by decide) ?_
    refine wr_cv3 (k' := 178) (ci := 12) rfl rfl rfl rfl (by assumption) rfl rfl (fw_add (f := 101) (a := 96) (b := 97) (P := 2) (R := 2) w (by decide) (by decide) (by decide) (by rw [v96]; exact q1) (by rw [s4]; exact q2) (by decide)) (fun r h2 q => ?_)
    obtain ⟨rfl, w⟩ := q
    obtain ⟨F5, w, s5, m5⟩ := ff_ex w
    rw [v96, s4] at s5
    have cO := w.cO
    have q5 : qB (2 + 2 + 1) (ga + gb) := q1.add q2
    have k5 : ∀ g, g ≠ 96 → g ≠ 97 → g ≠ 98 → g ≠ 101 → g < 104 → F5 g = F0 g := fun g a b c d e => by rw [m5 g d, k4 g a b c e]
    obtain ⟨S2, cS, hS⟩ := w.sg
    obtain ⟨tr, tn, tp⟩ := hS 101 (by decide)
    rw [s5] at tn tp
    have v5 : F5 98 = y - x := by rw [m5 98 (by decide), v98]
    by_cases sn : ga + gb < 0
    · have t0 := tn.mpr sn
      obtain ⟨p1, p2⟩ := pc.1 sn
      refine wr_aload_n rfl rfl rfl ?_
      refine wr_aload_n rfl rfl rfl ?_
      refine wr_get (ci := 12) (f := 2) rfl rfl rfl (by assumption) rfl ?_
      refine wr_bipush rfl rfl (by decide) ?_
      refine wr_iald rfl rfl (by assumption) (by omega) (by omega) ?_
      rw [show ((101 : Int)).toNat = 101 from rfl]
      refine wr_if_lt rfl rfl rfl (by omega) (fun c64 => ?_) (fun c64 => by exfalso; omega)
      refine wr_bipush rfl rfl (by decide) ?_
      refine wr_bipush rfl rfl (by decide) ?_
      refine wr_bipush rfl rfl (by decide) ?_
      refine wr_cv3 (k' := 192) (ci := 12) rfl rfl rfl rfl (by assumption) rfl rfl (rr_addHalf (t := 53) (a := 101) (b := 98) w (by decide) (by decide) (by decide) s5 v5 q5 qw (by rw [k5 53 (by decide) (by decide) (by decide) (by decide) (by decide)]; exact q53) (by decide)) (fun r h2 q => ?_)
      obtain ⟨rfl, F6, w, s6, m6⟩ := q
      refine wr_vret rfl rfl ?_
      refine ⟨rfl, F6, w, ?_, ?_, fun g a b c => ?_⟩
      · rw [m6 52 (by decide) (by decide) (by decide), k5 52 (by decide) (by decide) (by decide) (by decide) (by decide), p1]; grind
      · rw [s6, p2, k5 53 (by decide) (by decide) (by decide) (by decide) (by decide)]
      · rw [m6 g b (by omega) (by omega), k5 g (by omega) (by omega) (by omega) (by omega) (by omega)]
    · have t0 : ¬ S2 101 < 0 := fun q => sn (tn.mp q)
      obtain ⟨p1, p2⟩ := pc.2 sn
      refine wr_aload_n rfl rfl rfl ?_
      refine wr_aload_n rfl rfl rfl ?_
      refine wr_get (ci := 12) (f := 2) rfl rfl rfl (by assumption) rfl ?_
      refine wr_bipush rfl rfl (by decide) ?_
      refine wr_iald rfl rfl (by assumption) (by omega) (by omega) ?_
      rw [show ((101 : Int)).toNat = 101 from rfl]
      refine wr_if_lt rfl rfl rfl (by omega) (fun c64 => by exfalso; omega) (fun c64 => ?_)
      refine wr_bipush rfl rfl (by decide) ?_
      refine wr_goto rfl rfl ?_
      refine wr_bipush rfl rfl (by decide) ?_
      refine wr_bipush rfl rfl (by decide) ?_
      refine wr_cv3 (k' := 192) (ci := 12) rfl rfl rfl rfl (by assumption) rfl rfl (rr_addHalf (t := 52) (a := 101) (b := 98) w (by decide) (by decide) (by decide) s5 v5 q5 qw (by rw [k5 52 (by decide) (by decide) (by decide) (by decide) (by decide)]; exact q52) (by decide)) (fun r h2 q => ?_)
      obtain ⟨rfl, F6, w, s6, m6⟩ := q
      refine wr_vret rfl rfl ?_
      refine ⟨rfl, F6, w, ?_, ?_, fun g a b c => ?_⟩
      · rw [s6, p1, k5 52 (by decide) (by decide) (by decide) (by decide) (by decide)]
      · rw [m6 53 (by decide) (by decide) (by decide), k5 53 (by decide) (by decide) (by decide) (by decide) (by decide), p2]; grind
      · rw [m6 g a (by omega) (by omega), k5 g (by omega) (by omega) (by omega) (by omega) (by omega)]
end RTC
