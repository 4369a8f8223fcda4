/-! THE CLASS'S ARITHMETIC: its eleven numbers as a row of values; findCommon -/
/-- but for the arithmetic's own numbers at s and the cells L nothing has changed, none was made -/
def frA (s : Nat) (L : List Nat) (h h' : am_H) : Prop := h'.length = h.length ∧ ∀ i, (i ≤ s ∨ s + 22 < i) → i ∉ L → h'[i]? = h[i]?
theorem frA_rf (s : Nat) (L : List Nat) (h : am_H) : frA s L h h := ⟨rfl, fun _ _ _ => rfl⟩
theorem frA_tr {s : Nat} {L : List Nat} {h h1 h2 : am_H} (a : frA s L h h1) (b : frA s L h1 h2) : frA s L h h2 := ⟨b.1.trans a.1, fun i hi hL => (b.2 i hi hL).trans (a.2 i hi hL)⟩
theorem frA_wk {s : Nat} {L U : List Nat} {h h1 : am_H} (a : frA s L h h1) (hL : ∀ i ∈ L, i ∈ U) : frA s U h h1 := ⟨a.1, fun i hi hU => a.2 i hi (fun q => hU (hL i q))⟩
theorem frA_of {s : Nat} {L S : List Nat} {h h1 : am_H} (a : fr S h h1) (hS : ∀ i ∈ S, (s < i ∧ i ≤ s + 22) ∨ i ∈ L) : frA s L h h1 :=
  ⟨a.1, fun i hi hL => a.2 i (fun q => (hS i q).elim (fun e => by omega) hL)⟩
theorem isW.keptA {h h' : am_H} {s t l cap : Nat} {L : List Nat} {v : Int} (w : isW h t l cap v) (f : frA s L h h') (h1 : t ≤ s ∨ s + 22 < t) (h2 : l ≤ s ∨ s + 22 < l) (h3 : t ∉ L) (h4 : l ∉ L) : isW h' t l cap v := by
  obtain ⟨g, n, a, b, c⟩ := w
  exact ⟨g, n, by rw [f.2 t h1 h3]; exact a, by rw [f.2 l h2 h4]; exact b, c⟩
/-- the arithmetic at s, its numbers v 0 .. v 10 -/
def arV (h : am_H) (s : Nat) (v : Nat → Int) : Prop := h[s]? = some (arCell s) ∧ ∀ k, k < 11 → isW h (s + 1 + 2 * k) (s + 2 + 2 * k) 128 (v k)
theorem arV.ext {h h' : am_H} {s : Nat} {v : Nat → Int} {S : List Nat} (a : arV h s v) (f : fr S h h') (hS : ∀ i ∈ S, i < s ∨ s + 22 < i) : arV h' s v :=
  ⟨by rw [f.2 s (fun q => by have := hS s q; omega)]; exact a.1, fun k hk => (a.2 k hk).kept f (fun q => by have := hS _ q; omega) (fun q => by have := hS _ q; omega)⟩
theorem arV.set {h h' : am_H} {s k : Nat} {v : Nat → Int} {x : Int} (a : arV h s v) (hk : k < 11) (f : fr [s + 1 + 2 * k, s + 2 + 2 * k] h h') (w : isW h' (s + 1 + 2 * k) (s + 2 + 2 * k) 128 x) : arV h' s (updI v k x) := by
  refine ⟨by rw [f.2 s (by simp; omega)]; exact a.1, fun j hj => ?_⟩
  by_cases e : j = k
  · subst e; rw [updI_s]; exact w
  · rw [updI_n e]; exact (a.2 j hj).kept f (by simp; omega) (by simp; omega)
theorem frA_reg {s k : Nat} {h h' : am_H} {L : List Nat} (hk : k < 11) (f : fr [s + 1 + 2 * k, s + 2 + 2 * k] h h') : frA s L h h' := frA_of f (fun i hi => by simp at hi; omega)
theorem igcd_step {x y : Int} (hx : 0 ≤ x) (hy : 0 ≤ y) : Int.gcd y (x % y) = Int.gcd x y := by
  obtain ⟨a, rfl⟩ := Int.eq_ofNat_of_zero_le hx
  obtain ⟨b, rfl⟩ := Int.eq_ofNat_of_zero_le hy
  show Nat.gcd b (Int.natAbs ((a : Int) % (b : Int))) = Nat.gcd a b
  rw [show (a : Int) % b = ((a % b : Nat) : Int) from rfl, Int.natAbs_natCast, Nat.gcd_comm a b, Nat.gcd_rec b a]
  exact Nat.gcd_comm _ _
section ARC
variable {X : Nat × (Nat → Int32)}
theorem ar_copy {d s k ta la ca : Nat} {h : am_H} {v : Nat → Int} {va : Int} (hv : arV h s v) (hk : k < 11) (ha : isW h ta la ca va) (hca : ca ≤ 1000000) (hd : la ≠ s + 2 + 2 * k) (hfit : va < 1000000000 ^ 128) :
    am_c X (d + 1) 87 [.ref (s + 1 + 2 * k), .ref ta] h (fun r h' => r = none ∧ arV h' s (updI v k va) ∧ frA s [] h h') := by
  refine am_c.mono (wp_copy (hv.2 k hk) ha (by omega) hca (Ne.symm hd) hfit) (fun r h' q => ?_)
  obtain ⟨rfl, w, f⟩ := q
  exact ⟨rfl, hv.set hk f w, frA_reg hk f⟩
/-- divide into a number of the arithmetic's own -/
theorem ar_divR {d s k ta la ca tb lb cb : Nat} {h : am_H} {v : Nat → Int} {va vb : Int} (hv : arV h s v) (hk : k < 11) (hk7 : k ≠ 7 ∧ k ≠ 8) (ha : isW h ta la ca va) (hb : isW h tb lb cb vb) (hb0 : 0 < vb) (hca : ca ≤ 1000000) (hcb : cb ≤ 1000000) (da : la < s + 15 ∨ s + 18 < la) (db : (tb < s + 15 ∨ s + 18 < tb) ∧ (lb < s + 15 ∨ s + 18 < lb)) (hva : va < 1000000000 ^ 127) (hvb : vb < 1000000000 ^ 127) :
    am_c X (d + 2) 89 [.ref s, .ref (s + 1 + 2 * k), .ref ta, .ref tb] h (fun r h' => r = none ∧ ∃ v', arV h' s v' ∧ v' k = va / vb ∧ v' 7 = va % vb ∧ (∀ j, j ≠ k → j ≠ 7 → j ≠ 8 → v' j = v j) ∧ frA s [] h h') := by
  have hfit : va < 1000000000 ^ (128 - 1) * vb := by
    have y1 : 1000000000 ^ 127 * 1 ≤ 1000000000 ^ 127 * vb := Int.mul_le_mul_of_nonneg_left (by omega) (by have := bp_pos 127; omega)
    rw [show (128 : Nat) - 1 = 127 from rfl]
    omega
  refine am_c.mono (wp_divide hv.1 (hv.2 7 (by decide)) (hv.2 8 (by decide)) (hv.2 k hk) ha hb hb0 hca hcb (by omega) (by omega) (by omega) (by omega) (by omega) hva hvb hfit) (fun r h' q => ?_)
  obtain ⟨rfl, w1, w2, ⟨w, w3⟩, f⟩ := q
  refine ⟨rfl, updI (updI (updI v k (va / vb)) 7 (va % vb)) 8 w, ⟨by rw [f.2 s (by simp; omega)]; exact hv.1, fun j hj => ?_⟩, ?_, ?_, ?_, frA_of f (fun i hi => by simp at hi; omega)⟩
  · by_cases e8 : j = 8
    · subst e8; rw [updI_s]; exact w3
    · rw [updI_n e8]
      by_cases e7 : j = 7
      · subst e7; rw [updI_s]; exact w2
      · rw [updI_n e7]
        by_cases e : j = k
        · subst e; rw [updI_s]; exact w1
        · rw [updI_n e]; exact (hv.2 j hj).kept f (by simp; omega) (by simp; omega)
  · rw [updI_n hk7.2, updI_n hk7.1, updI_s]
  · rw [updI_n (by decide), updI_s]
  · intro j h1 h2 h3
    rw [updI_n h3, updI_n h2, updI_n h1]
theorem wp_fc_loop {d s ki : Nat} {h0 : am_H} {v0 : Nat → Int} {G : Int} {Q : Option Value → am_H → Prop} (hk : ki < 7)
    (K : ∀ (h : am_H) (v : Nat → Int), arV h s v → (∀ k, k < 7 → k ≠ ki → v k = v0 k) → frA s [] h0 h → v ki = G → Q none h) :
    ∀ (k n : Nat) (h : am_H) (v : Nat → Int), arV h s v → (∀ k, k < 7 → k ≠ ki → v k = v0 k) → frA s [] h0 h → (Int.gcd (v ki) (v 9) : Int) = G → v ki < 1000000000 ^ 127 → v 9 < 1000000000 ^ 127 → ((v 9 ≤ v ki ∧ v ki * v 9 < 2 ^ k) ∨ (0 < k ∧ v ki * v 9 * 2 < 2 ^ k)) → n + k ≤ 100000 → am_w X (d + 2) 86 (16, [.ref s, .ref (s + 1 + 2 * ki), am_U, am_U, .int (iI n)], [], h) Q := by
  intro k
  induction k with
  | zero =>
    intro n h v hv hk0 hf hg b1 b2 hm hn
    have c_s : h[s]? = some (arCell s) := hv.1
    unfold arCell at c_s
    have W9 : isW h (s + 19) (s + 20) 128 (v 9) := hv.2 9 (by decide)
    have Wi := hv.2 ki (by omega)
    have x0 := Wi.ex
    have y0 := W9.ex
    obtain ⟨g9, n9, c_9, c_9l, o1, o2, o3⟩ := id W9
    have z : n9 = 0 := by
      rcases Nat.eq_zero_or_pos n9 with q | q
      · exact q
      · have y1 := nv_low o2 q
        have y2 := bp_pos (n9 - 1)
        have y3 : 1 ≤ v ki * v 9 := by
          have : 1 * 1 ≤ v ki * v 9 := Int.mul_le_mul (by omega) (by omega) (by decide) (by omega)
          omega
        rw [Int.pow_zero] at hm
        omega
    subst z
    have z9 : v 9 = 0 := by rw [← o3]; rfl
    refine wr_iload rfl rfl rfl ?_
    refine wr_ldc (z := 1000000) rfl rfl rfl (by decide) ?_
    refine wr_icmp_ge rfl rfl rfl (by omega) (by omega) (fun c20 => ?_) (fun c20 => ?_)
    · exfalso; omega
    ·
      refine wr_aload_n rfl rfl rfl ?_
      refine wr_get (ci := 4) (f := 9) rfl rfl rfl (by assumption) rfl ?_
      refine wr_get (ci := 5) (f := 1) rfl rfl rfl (by assumption) rfl ?_
      refine wr_if_le rfl rfl rfl (by omega) (fun c30 => ?_) (fun c30 => ?_)
      ·
        refine wr_vret rfl rfl ?_
        refine K h v hv hk0 hf ?_
        rw [← hg, z9, Int.gcd_zero_right]
        omega
      · exfalso; omega
  | succ k ih =>
    intro n h v hv hk0 hf hg b1 b2 hm hn
    have c_s : h[s]? = some (arCell s) := hv.1
    unfold arCell at c_s
    have W9 : isW h (s + 19) (s + 20) 128 (v 9) := hv.2 9 (by decide)
    have Wi := hv.2 ki (by omega)
    have x0 := Wi.ex
    have y0 := W9.ex
    obtain ⟨g9, n9, c_9, c_9l, o1, o2, o3⟩ := id W9
    obtain ⟨gi, ni, c_i, c_il, i1, i2, i3⟩ := id Wi
    refine wr_iload rfl rfl rfl ?_
    refine wr_ldc (z := 1000000) rfl rfl rfl (by decide) ?_
    refine wr_icmp_ge rfl rfl rfl (by omega) (by omega) (fun c20 => ?_) (fun c20 => ?_)
    · exfalso; omega
    ·
      refine wr_aload_n rfl rfl rfl ?_
      refine wr_get (ci := 4) (f := 9) rfl rfl rfl (by assumption) rfl ?_
      refine wr_get (ci := 5) (f := 1) rfl rfl rfl (by assumption) rfl ?_
      refine wr_if_le rfl rfl rfl (by omega) (fun c30 => ?_) (fun c30 => ?_)
      ·
        have z : n9 = 0 := by omega
        subst z
        have z9 : v 9 = 0 := by rw [← o3]; rfl
        refine wr_vret rfl rfl ?_
        refine K h v hv hk0 hf ?_
        rw [← hg, z9, Int.gcd_zero_right]
        omega
      ·
        have y1 : 0 < v 9 := by
          have a1 := nv_low o2 (by omega)
          have a2 := bp_pos (n9 - 1)
          omega
        have J : am_w X (d + 2) 86 (73, [.ref s, .ref (s + 1 + 2 * ki), am_U, am_U, .int (iI n)], [], h) Q := by
          refine wr_aload_n rfl rfl rfl ?_
          refine wr_aload_n rfl rfl rfl ?_
          refine wr_get (ci := 4) (f := 10) rfl rfl rfl (by assumption) rfl ?_
          refine wr_aload_n rfl rfl rfl ?_
          refine wr_aload_n rfl rfl rfl ?_
          refine wr_get (ci := 4) (f := 9) rfl rfl rfl (by assumption) rfl ?_
          refine wr_cv3 (k' := 89) (ci := 4) rfl rfl rfl rfl (by assumption) rfl rfl (ar_divR (k := 10) hv (by decide) (by decide) Wi W9 y1 (by omega) (by omega) (by omega) (by omega) b1 b2) (fun r h2 q => ?_)
          obtain ⟨rfl, v2, hv2, -, hr2, hj2, f2⟩ := q
          dsimp only [Option.toList, List.nil_append]
          have e_s : h2[s]? = some (arCell s) := hv2.1
          unfold arCell at e_s
          have V9 : isW h2 (s + 19) (s + 20) 128 (v2 9) := hv2.2 9 (by decide)
          have Vi := hv2.2 ki (by omega)
          rw [hj2 9 (by decide) (by decide) (by decide)] at V9
          obtain ⟨gj, nj, c_j, -⟩ := id Vi
          refine wr_aload_n rfl rfl rfl ?_
          refine wr_aload_n rfl rfl rfl ?_
          refine wr_get (ci := 4) (f := 9) rfl rfl rfl (by assumption) rfl ?_
          refine wr_cv1 (k' := 87) (ci := 5) rfl rfl rfl rfl (by assumption) rfl rfl (ar_copy hv2 (by omega) V9 (by omega) (by omega) (by have := bp_mono (m := 127) (n := 128) (by decide); omega)) (fun r h3 q => ?_)
          obtain ⟨rfl, hv3, f3⟩ := q
          dsimp only [Option.toList, List.nil_append]
          have g_s : h3[s]? = some (arCell s) := hv3.1
          unfold arCell at g_s
          have U9 : isW h3 (s + 19) (s + 20) 128 _ := hv3.2 9 (by decide)
          have U7 : isW h3 (s + 15) (s + 16) 128 _ := hv3.2 7 (by decide)
          obtain ⟨gl, nl, c_l9, -⟩ := id U9
          obtain ⟨gm, nm, c_l7, -⟩ := id U7
          have rl := Int.emod_lt_of_pos (v ki) y1
          have r0 := Int.emod_nonneg (v ki) (show v 9 ≠ 0 by omega)
          rw [updI_n (by omega), hr2] at U7
          refine wr_aload_n rfl rfl rfl ?_
          refine wr_get (ci := 4) (f := 9) rfl rfl rfl (by assumption) rfl ?_
          refine wr_aload_n rfl rfl rfl ?_
          refine wr_get (ci := 4) (f := 7) rfl rfl rfl (by assumption) rfl ?_
          refine wr_cv1 (k' := 87) (ci := 5) rfl rfl rfl rfl c_l9 rfl rfl (ar_copy (k := 9) hv3 (by decide) U7 (by omega) (by omega) (by have := bp_mono (m := 127) (n := 128) (by decide); omega)) (fun r h4 q => ?_)
          obtain ⟨rfl, hv4, f4⟩ := q
          dsimp only [Option.toList, List.nil_append]
          refine wr_iinc (ls' := [_, _, _, _, _]) rfl rfl rfl rfl ?_
          refine wr_goto rfl rfl ?_
          rw [show (n : Int) + 1 = ((n + 1 : Nat) : Int) by omega]
          have e9 : updI (updI v2 ki (v 9)) 9 (v ki % v 9) 9 = v ki % v 9 := updI_s _ _ _
          have ei : updI (updI v2 ki (v 9)) 9 (v ki % v 9) ki = v 9 := by rw [updI_n (by omega), updI_s]
          refine ih (n + 1) h4 _ hv4 (fun j hj hj2' => ?_) (frA_tr (frA_tr (frA_tr hf f2) f3) f4) ?_ ?_ ?_ ?_ (by omega)
          · rw [updI_n (by omega), updI_n hj2', hj2 j (by omega) (by omega) (by omega)]
            exact hk0 j hj hj2'
          · rw [e9, ei, ← hg, igcd_step x0 y0]
          · rw [ei]; exact b2
          · rw [e9]; omega
          · rw [e9, ei]
            refine Or.inl ⟨by omega, ?_⟩
            rw [Int.pow_succ] at hm
            have q1 := Int.mul_ediv_add_emod (v ki) (v 9)
            rcases hm with ⟨m1, m2⟩ | ⟨m1, m2⟩
            · have q2 : 1 ≤ v ki / v 9 := Int.le_ediv_of_mul_le y1 (by omega)
              have q3 : v 9 * 1 ≤ v 9 * (v ki / v 9) := Int.mul_le_mul_of_nonneg_left q2 y0
              have q4 : v 9 * (2 * (v ki % v 9)) ≤ v 9 * v ki := Int.mul_le_mul_of_nonneg_left (by omega) y0
              have q5 : v 9 * (2 * (v ki % v 9)) = v 9 * (v ki % v 9) * 2 := by grind
              have q6 : v 9 * v ki = v ki * v 9 := Int.mul_comm _ _
              omega
            · have q2 : 0 ≤ v ki / v 9 := Int.ediv_nonneg x0 y0
              have q3 : v 9 * 0 ≤ v 9 * (v ki / v 9) := Int.mul_le_mul_of_nonneg_left q2 y0
              have q4 : v 9 * (v ki % v 9) ≤ v 9 * v ki := Int.mul_le_mul_of_nonneg_left (by omega) y0
              have q6 : v 9 * v ki = v ki * v 9 := Int.mul_comm _ _
              omega
        refine wr_aload_n rfl rfl rfl ?_
        refine wr_get (ci := 5) (f := 1) rfl rfl rfl (by assumption) rfl ?_
        refine wr_iconst rfl rfl ?_
        refine wr_icmp_gt rfl rfl rfl (by omega) (by omega) (fun c38 => ?_) (fun c38 => ?_)
        · exact J
        ·
          refine wr_aload_n rfl rfl rfl ?_
          refine wr_get (ci := 4) (f := 9) rfl rfl rfl (by assumption) rfl ?_
          refine wr_get (ci := 5) (f := 1) rfl rfl rfl (by assumption) rfl ?_
          refine wr_iconst rfl rfl ?_
          refine wr_icmp_gt rfl rfl rfl (by omega) (by omega) (fun c49 => ?_) (fun c49 => ?_)
          · exact J
          ·
            have l1 := (nv_nonneg i2.1).2
            have l2 := (nv_nonneg o2.1).2
            have l3 := bp_mono (m := ni) (n := 2) (by omega)
            have l4 := bp_mono (m := n9) (n := 2) (by omega)
            rw [show (1000000000 : Int) ^ 2 = 1000000000000000000 by decide] at l3 l4
            obtain ⟨x, ex⟩ : ∃ x : Nat, v ki = x := ⟨(v ki).toNat, by omega⟩
            obtain ⟨y, ey⟩ : ∃ y : Nat, v 9 = y := ⟨(v 9).toNat, by omega⟩
            refine wr_aload_n rfl rfl rfl ?_
            refine wr_aload_n rfl rfl rfl ?_
            refine wr_iconst rfl rfl ?_
            refine wr_cv1 (k' := 88) (ci := 5) rfl rfl rfl rfl (by assumption) rfl rfl (wp_eighteen Wi (by omega) (by decide)) (fun r h2 q => ?_)
            obtain ⟨rfl, hh⟩ := q
            rw [hh]
            clear hh h2
            rw [show v ki / 1000000000 ^ (2 * (0 : Int).toNat) % 1000000000000000000 = (x : Int) by simp; omega]
            dsimp only [Option.toList, List.cons_append, List.nil_append]
            refine wr_aload_n rfl rfl rfl ?_
            refine wr_get (ci := 4) (f := 9) rfl rfl rfl (by assumption) rfl ?_
            refine wr_iconst rfl rfl ?_
            refine wr_cv1 (k' := 88) (ci := 5) rfl rfl rfl rfl (by assumption) rfl rfl (wp_eighteen W9 (by omega) (by decide)) (fun r h2 q => ?_)
            obtain ⟨rfl, hh⟩ := q
            rw [hh]
            clear hh h2
            rw [show v 9 / 1000000000 ^ (2 * (0 : Int).toNat) % 1000000000000000000 = (y : Int) by simp; omega]
            dsimp only [Option.toList, List.cons_append, List.nil_append]
            refine wr_cs2 (k' := 80) rfl rfl rfl rfl rfl (wp_commonOf (G := x) (L := y) (by omega) (by omega)) (fun r h2 q => ?_)
            obtain ⟨rfl, hh⟩ := q
            rw [hh]
            clear hh h2
            dsimp only [Option.toList, List.cons_append, List.nil_append]
            have gle : Nat.gcd x y ≤ y := Nat.gcd_le_right _ (by omega)
            have gB : ((Nat.gcd x y : Nat) : Int) < 1000000000 ^ 128 := by
              have := bp_mono (m := 2) (n := 128) (by decide)
              rw [show (1000000000 : Int) ^ 2 = 1000000000000000000 by decide] at this
              omega
            refine wr_cv1 (k' := 10) (ci := 5) rfl rfl rfl rfl (by assumption) rfl rfl (wp_put c_i c_il (by omega) (by omega) gB) (fun r h2 q => ?_)
            obtain ⟨rfl, w, f⟩ := q
            dsimp only [Option.toList, List.nil_append]
            refine wr_vret rfl rfl ?_
            refine K _ _ (hv.set (by omega) f w) (fun j hj hj2 => by rw [updI_n hj2]; exact hk0 j hj hj2) (frA_tr hf (frA_reg (by omega) f)) ?_
            rw [updI_s, ← hg, ex, ey]
            rfl
theorem bp_two : ∀ n : Nat, (1000000000 : Int) ^ n ≤ 2 ^ (30 * n)
  | 0 => by decide
  | n + 1 => by
    have ih := bp_two n
    rw [Int.pow_succ, show 30 * (n + 1) = 30 * n + 30 by omega, Int.pow_add]
    refine Int.mul_le_mul ih (by decide) (by decide) ?_
    have := bp_pos n
    omega
theorem wp_findCommon {d s ki ta la ca tb lb cb : Nat} {h : am_H} {v : Nat → Int} {va vb : Int} (hk : ki < 7) (hv : arV h s v) (ha : isW h ta la ca va) (hb : isW h tb lb cb vb) (hca : ca ≤ 1000000) (hcb : cb ≤ 1000000) (da : la ≠ s + 2 + 2 * ki) (db : (tb ≠ s + 1 + 2 * ki ∧ tb ≠ s + 2 + 2 * ki) ∧ lb ≠ s + 1 + 2 * ki ∧ lb ≠ s + 2 + 2 * ki ∧ lb ≠ s + 20) (hva : va < 1000000000 ^ 127) (hvb : vb < 1000000000 ^ 127) :
    am_c X (d + 3) 86 [.ref s, .ref (s + 1 + 2 * ki), .ref ta, .ref tb] h (fun r h' => r = none ∧ ∃ v', arV h' s v' ∧ v' ki = (Int.gcd va vb : Int) ∧ (∀ j, j < 7 → j ≠ ki → v' j = v j) ∧ frA s [] h h') := by
  have Wi := hv.2 ki (by omega)
  obtain ⟨gi, ni, c_i, -⟩ := id Wi
  have big := bp_mono (m := 127) (n := 128) (by decide)
  have va0 := ha.ex
  have vb0 := hb.ex
  refine am_c.of (Nat.le_of_ble_eq_true rfl) ?_
  show am_w _ _ _ (_, [_, _, _, _, _], _, _) _
  refine wr_aload_n rfl rfl rfl ?_
  refine wr_aload_n rfl rfl rfl ?_
  refine wr_cv1 (k' := 87) (ci := 5) rfl rfl rfl rfl c_i rfl rfl (wp_copy Wi ha (by omega) hca (by omega) (by omega)) (fun r h2 q => ?_)
  obtain ⟨rfl, w2, f2⟩ := q
  dsimp only [Option.toList, List.nil_append]
  have hv2 := hv.set (by omega) f2 w2
  have e_s : h2[s]? = some (arCell s) := hv2.1
  unfold arCell at e_s
  have W9 : isW h2 (s + 19) (s + 20) 128 _ := hv2.2 9 (by decide)
  obtain ⟨g9, n9, c_9, -⟩ := id W9
  have hb2 := hb.kept f2 (by simp; omega) (by simp; omega)
  refine wr_aload_n rfl rfl rfl ?_
  refine wr_get (ci := 4) (f := 9) rfl rfl rfl (by assumption) rfl ?_
  refine wr_aload_n rfl rfl rfl ?_
  refine wr_cv1 (k' := 87) (ci := 5) rfl rfl rfl rfl c_9 rfl rfl (ar_copy (k := 9) hv2 (by decide) hb2 hcb (by omega) (by omega)) (fun r h3 q => ?_)
  obtain ⟨rfl, hv3, f3⟩ := q
  dsimp only [Option.toList, List.nil_append]
  refine wr_iconst rfl rfl ?_
  refine wr_istore (ls' := [_, _, _, _, _]) rfl rfl (Nat.le_of_ble_eq_true rfl) rfl ?_
  refine am_w.wk (ls' := [_, _, am_U, am_U, _]) ⟨Or.inr rfl, Or.inr rfl, Or.inl rfl, Or.inl rfl, Or.inr rfl, trivial⟩ ?_
  have e9 : updI (updI v ki va) 9 vb 9 = vb := updI_s _ _ _
  have ei : updI (updI v ki va) 9 vb ki = va := by rw [updI_n (by omega), updI_s]
  refine wp_fc_loop (v0 := v) (h0 := h) (G := (Int.gcd va vb : Int)) hk (fun h' v' a b c e => ⟨rfl, v', a, e, b, c⟩) (30 * 127 + 30 * 127 + 1) 0 h3 _ hv3 (fun j hj hj2 => by rw [updI_n (by omega), updI_n hj2]) (frA_tr (frA_reg (by omega) f2) f3) (by rw [e9, ei]) (by rw [ei]; exact hva) (by rw [e9]; exact hvb) ?_ (by decide)
  rw [e9, ei]
  refine Or.inr ⟨by decide, ?_⟩
  rw [Int.pow_succ, Int.pow_add]
  have t := bp_two 127
  have m1 : va * vb ≤ va * 1000000000 ^ 127 := Int.mul_le_mul_of_nonneg_left (by omega) va0
  have m2 : va * 1000000000 ^ 127 < 1000000000 ^ 127 * 1000000000 ^ 127 := Int.mul_lt_mul_of_pos_right hva (bp_pos _)
  have m3 : (1000000000 : Int) ^ 127 * 1000000000 ^ 127 ≤ 2 ^ (30 * 127) * 2 ^ (30 * 127) := Int.mul_le_mul t t (by have := bp_pos 127; omega) (by have := bp_pos 127; omega)
  omega
end ARC
