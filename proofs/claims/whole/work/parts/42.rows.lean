/-! ROWS OF THE PLAIN MACHINE, over integers; printed by wip/whole/tools/gen_rows.py -/
section AMRW
variable {X : Nat × (Nat → Int32)} {d k pc pc' : Nat} {ls st : List Value} {h : am_H} {Q : Option Value → am_H → Prop}
theorem wr_null (hi : am_code k pc = some (.aconst_null)) (hp : pc + 1 = pc') (kk : am_w X d k (pc', ls, .null :: st, h) Q) : am_w X d k (pc, ls, st, h) Q := by
  subst hp
  exact am_w.go hi rfl kk
theorem wr_iconst {n : Int} (hi : am_code k pc = some (.iconst n)) (hp : pc + 1 = pc') (kk : am_w X d k (pc', ls, .int (iI n) :: st, h) Q) : am_w X d k (pc, ls, st, h) Q := by
  subst hp
  exact am_w.go hi rfl kk
theorem wr_bipush {n : Int} (hi : am_code k pc = some (.bipush n)) (hp : pc + 2 = pc') (hv : (Int8.ofInt n).toInt32 = iI n) (kk : am_w X d k (pc', ls, .int (iI n) :: st, h) Q) : am_w X d k (pc, ls, st, h) Q := by
  subst hp
  refine am_w.go hi rfl ?_
  rw [hv]
  exact kk
theorem wr_sipush {n : Int} (hi : am_code k pc = some (.sipush n)) (hp : pc + 3 = pc') (hv : (Int16.ofInt n).toInt32 = iI n) (kk : am_w X d k (pc', ls, .int (iI n) :: st, h) Q) : am_w X d k (pc, ls, st, h) Q := by
  subst hp
  refine am_w.go hi rfl ?_
  rw [hv]
  exact kk
theorem wr_lconst {n : Fin 2} {z : Int} (hi : am_code k pc = some (.lconst n)) (hp : pc + 1 = pc') (hv : Int64.ofNat (n : Nat) = lI z) (kk : am_w X d k (pc', ls, .long (lI z) :: st, h) Q) : am_w X d k (pc, ls, st, h) Q := by
  subst hp
  refine am_w.go hi rfl ?_
  rw [hv]
  exact kk
theorem wr_ldc {j : Nat} {v : Int32} {z : Int} (hi : am_code k pc = some (.ldc j)) (hp : pc + 2 = pc') (hl : am_ldi (am_own k) j = some v) (hv : v = iI z) (kk : am_w X d k (pc', ls, .int (iI z) :: st, h) Q) : am_w X d k (pc, ls, st, h) Q := by
  subst hp
  refine am_w.go hi (by simp only [am_do, am_dp, hl]; rfl) ?_
  rw [hv]
  exact kk
theorem wr_ldc2 {j : Nat} {v : Int64} {z : Int} (hi : am_code k pc = some (.ldc2_w j)) (hp : pc + 3 = pc') (hl : am_ldl (am_own k) j = some v) (hv : v = lI z) (kk : am_w X d k (pc', ls, .long (lI z) :: st, h) Q) : am_w X d k (pc, ls, st, h) Q := by
  subst hp
  refine am_w.go hi (by simp only [am_do, am_dp, hl]; rfl) ?_
  rw [hv]
  exact kk
theorem wr_iload {x : Nat} {v : Int32} (hi : am_code k pc = some (.iload x)) (hp : pc + 2 = pc') (hl : ls[(x : Nat)]? = some (.int v)) (kk : am_w X d k (pc', ls, .int v :: st, h) Q) : am_w X d k (pc, ls, st, h) Q := by
  subst hp
  exact am_w.go hi (by simp only [am_do, am_dp, am_dl, am_gi, hl]; rfl) kk
theorem wr_iload_n {x : Fin 4} {v : Int32} (hi : am_code k pc = some (.iload_n x)) (hp : pc + 1 = pc') (hl : ls[(x : Nat)]? = some (.int v)) (kk : am_w X d k (pc', ls, .int v :: st, h) Q) : am_w X d k (pc, ls, st, h) Q := by
  subst hp
  exact am_w.go hi (by simp only [am_do, am_dp, am_dl, am_gi, hl]; rfl) kk
theorem wr_lload {x : Nat} {v : Int64} (hi : am_code k pc = some (.lload x)) (hp : pc + 2 = pc') (hl : ls[(x : Nat)]? = some (.long v)) (kk : am_w X d k (pc', ls, .long v :: st, h) Q) : am_w X d k (pc, ls, st, h) Q := by
  subst hp
  exact am_w.go hi (by simp only [am_do, am_dp, am_dl, am_gl, hl]; rfl) kk
theorem wr_lload_n {x : Fin 4} {v : Int64} (hi : am_code k pc = some (.lload_n x)) (hp : pc + 1 = pc') (hl : ls[(x : Nat)]? = some (.long v)) (kk : am_w X d k (pc', ls, .long v :: st, h) Q) : am_w X d k (pc, ls, st, h) Q := by
  subst hp
  exact am_w.go hi (by simp only [am_do, am_dp, am_dl, am_gl, hl]; rfl) kk
theorem wr_aload {x : Nat} {a : Nat} (hi : am_code k pc = some (.aload x)) (hp : pc + 2 = pc') (hl : ls[(x : Nat)]? = some (.ref a)) (kk : am_w X d k (pc', ls, .ref a :: st, h) Q) : am_w X d k (pc, ls, st, h) Q := by
  subst hp
  exact am_w.go hi (by simp only [am_do, am_dp, am_dl, am_ga, hl]; rfl) kk
theorem wr_aloadX {x : Nat} (hi : am_code k pc = some (.aload x)) (hp : pc + 2 = pc') (hl : ls[(x : Nat)]? = some am_X) (kk : am_w X d k (pc', ls, am_X :: st, h) Q) : am_w X d k (pc, ls, st, h) Q := by
  subst hp
  exact am_w.go hi (by simp only [am_do, am_dp, am_dl, am_ga, hl]; rfl) kk
theorem wr_aload_n {x : Fin 4} {a : Nat} (hi : am_code k pc = some (.aload_n x)) (hp : pc + 1 = pc') (hl : ls[(x : Nat)]? = some (.ref a)) (kk : am_w X d k (pc', ls, .ref a :: st, h) Q) : am_w X d k (pc, ls, st, h) Q := by
  subst hp
  exact am_w.go hi (by simp only [am_do, am_dp, am_dl, am_ga, hl]; rfl) kk
theorem wr_aload_nX {x : Fin 4} (hi : am_code k pc = some (.aload_n x)) (hp : pc + 1 = pc') (hl : ls[(x : Nat)]? = some am_X) (kk : am_w X d k (pc', ls, am_X :: st, h) Q) : am_w X d k (pc, ls, st, h) Q := by
  subst hp
  exact am_w.go hi (by simp only [am_do, am_dp, am_dl, am_ga, hl]; rfl) kk
theorem wr_istore {x : Nat} {v : Int32} {ls' : List Value} (hi : am_code k pc = some (.istore x)) (hp : pc + 2 = pc') (hx : (x : Nat) < ls.length) (hs : am_p1 ls x (.int v) = ls') (kk : am_w X d k (pc', ls', st, h) Q) : am_w X d k (pc, ls, .int v :: st, h) Q := by
  subst hp
  subst hs
  exact am_w.go hi (by simp only [am_do, am_dp, am_dl, am_i1]; rw [if_pos hx]; rfl) kk
theorem wr_istore_n {x : Fin 4} {v : Int32} {ls' : List Value} (hi : am_code k pc = some (.istore_n x)) (hp : pc + 1 = pc') (hx : (x : Nat) < ls.length) (hs : am_p1 ls x (.int v) = ls') (kk : am_w X d k (pc', ls', st, h) Q) : am_w X d k (pc, ls, .int v :: st, h) Q := by
  subst hp
  subst hs
  exact am_w.go hi (by simp only [am_do, am_dp, am_dl, am_i1]; rw [if_pos hx]; rfl) kk
theorem wr_lstore {x : Nat} {v : Int64} {ls' : List Value} (hi : am_code k pc = some (.lstore x)) (hp : pc + 2 = pc') (hx : (x : Nat) + 1 < ls.length) (hs : am_p2 ls x (.long v) = ls') (kk : am_w X d k (pc', ls', st, h) Q) : am_w X d k (pc, ls, .long v :: st, h) Q := by
  subst hp
  subst hs
  exact am_w.go hi (by simp only [am_do, am_dp, am_dl, am_l1]; rw [if_pos hx]; rfl) kk
theorem wr_lstore_n {x : Fin 4} {v : Int64} {ls' : List Value} (hi : am_code k pc = some (.lstore_n x)) (hp : pc + 1 = pc') (hx : (x : Nat) + 1 < ls.length) (hs : am_p2 ls x (.long v) = ls') (kk : am_w X d k (pc', ls', st, h) Q) : am_w X d k (pc, ls, .long v :: st, h) Q := by
  subst hp
  subst hs
  exact am_w.go hi (by simp only [am_do, am_dp, am_dl, am_l1]; rw [if_pos hx]; rfl) kk
theorem wr_astore {x : Nat} {v : Nat} {ls' : List Value} (hi : am_code k pc = some (.astore x)) (hp : pc + 2 = pc') (hx : (x : Nat) < ls.length) (hs : am_p1 ls x (.ref v) = ls') (kk : am_w X d k (pc', ls', st, h) Q) : am_w X d k (pc, ls, .ref v :: st, h) Q := by
  subst hp
  subst hs
  exact am_w.go hi (by simp only [am_do, am_dp, am_dl, am_r1]; rw [if_pos hx]; rfl) kk
theorem wr_astore_n {x : Fin 4} {v : Nat} {ls' : List Value} (hi : am_code k pc = some (.astore_n x)) (hp : pc + 1 = pc') (hx : (x : Nat) < ls.length) (hs : am_p1 ls x (.ref v) = ls') (kk : am_w X d k (pc', ls', st, h) Q) : am_w X d k (pc, ls, .ref v :: st, h) Q := by
  subst hp
  subst hs
  exact am_w.go hi (by simp only [am_do, am_dp, am_dl, am_r1]; rw [if_pos hx]; rfl) kk
theorem wr_iinc {x : Nat} {n a : Int} {ls' : List Value} (hi : am_code k pc = some (.iinc x n)) (hp : pc + 3 = pc') (hl : ls[x]? = some (.int (iI a))) (hs : am_p1 ls x (.int (iI (a + n))) = ls') (kk : am_w X d k (pc', ls', st, h) Q) : am_w X d k (pc, ls, st, h) Q := by
  subst hp
  subst hs
  refine am_w.go hi (σ' := (pc + 3, am_p1 ls x (.int (iI (a + n))), st, h)) (by simp only [am_do, am_dp, am_dl, am_gi, hl]; rw [← iI_add]; rfl) kk
theorem wr_dup {a : Nat} (hi : am_code k pc = some (.dup)) (hp : pc + 1 = pc') (kk : am_w X d k (pc', ls, .ref a :: .ref a :: st, h) Q) : am_w X d k (pc, ls, .ref a :: st, h) Q := by
  subst hp
  exact am_w.go hi rfl kk
theorem wr_dup_i {a : Int32} (hi : am_code k pc = some (.dup)) (hp : pc + 1 = pc') (kk : am_w X d k (pc', ls, .int a :: .int a :: st, h) Q) : am_w X d k (pc, ls, .int a :: st, h) Q := by
  subst hp
  exact am_w.go hi rfl kk
theorem wr_dup2_ri {a : Nat} {b : Int32} (hi : am_code k pc = some (.dup2)) (hp : pc + 1 = pc') (kk : am_w X d k (pc', ls, .int b :: .ref a :: .int b :: .ref a :: st, h) Q) : am_w X d k (pc, ls, .int b :: .ref a :: st, h) Q := by
  subst hp
  exact am_w.go hi rfl kk
theorem wr_dup2_l {b : Int64} (hi : am_code k pc = some (.dup2)) (hp : pc + 1 = pc') (kk : am_w X d k (pc', ls, .long b :: .long b :: st, h) Q) : am_w X d k (pc, ls, .long b :: st, h) Q := by
  subst hp
  exact am_w.go hi rfl kk
theorem wr_pop_i {a : Int32} (hi : am_code k pc = some (.pop)) (hp : pc + 1 = pc') (kk : am_w X d k (pc', ls, st, h) Q) : am_w X d k (pc, ls, .int a :: st, h) Q := by
  subst hp
  exact am_w.go hi rfl kk
theorem wr_iadd {a b : Int} (hi : am_code k pc = some (.iadd)) (hp : pc + 1 = pc') (kk : am_w X d k (pc', ls, .int (iI (a + b)) :: st, h) Q) : am_w X d k (pc, ls, .int (iI b) :: .int (iI a) :: st, h) Q := by
  subst hp
  refine am_w.go hi rfl ?_
  rw [iI_add]
  exact kk
theorem wr_isub {a b : Int} (hi : am_code k pc = some (.isub)) (hp : pc + 1 = pc') (kk : am_w X d k (pc', ls, .int (iI (a - b)) :: st, h) Q) : am_w X d k (pc, ls, .int (iI b) :: .int (iI a) :: st, h) Q := by
  subst hp
  refine am_w.go hi rfl ?_
  rw [iI_sub]
  exact kk
theorem wr_imul {a b : Int} (hi : am_code k pc = some (.imul)) (hp : pc + 1 = pc') (kk : am_w X d k (pc', ls, .int (iI (a * b)) :: st, h) Q) : am_w X d k (pc, ls, .int (iI b) :: .int (iI a) :: st, h) Q := by
  subst hp
  refine am_w.go hi rfl ?_
  rw [iI_mul]
  exact kk
theorem wr_ladd {a b : Int} (hi : am_code k pc = some (.ladd)) (hp : pc + 1 = pc') (kk : am_w X d k (pc', ls, .long (lI (a + b)) :: st, h) Q) : am_w X d k (pc, ls, .long (lI b) :: .long (lI a) :: st, h) Q := by
  subst hp
  refine am_w.go hi rfl ?_
  rw [lI_add]
  exact kk
theorem wr_lsub {a b : Int} (hi : am_code k pc = some (.lsub)) (hp : pc + 1 = pc') (kk : am_w X d k (pc', ls, .long (lI (a - b)) :: st, h) Q) : am_w X d k (pc, ls, .long (lI b) :: .long (lI a) :: st, h) Q := by
  subst hp
  refine am_w.go hi rfl ?_
  rw [lI_sub]
  exact kk
theorem wr_lmul {a b : Int} (hi : am_code k pc = some (.lmul)) (hp : pc + 1 = pc') (kk : am_w X d k (pc', ls, .long (lI (a * b)) :: st, h) Q) : am_w X d k (pc, ls, .long (lI b) :: .long (lI a) :: st, h) Q := by
  subst hp
  refine am_w.go hi rfl ?_
  rw [lI_mul]
  exact kk
theorem wr_ineg {a : Int} (hi : am_code k pc = some (.ineg)) (hp : pc + 1 = pc') (kk : am_w X d k (pc', ls, .int (iI (-a)) :: st, h) Q) : am_w X d k (pc, ls, .int (iI a) :: st, h) Q := by
  subst hp
  refine am_w.go hi rfl ?_
  rw [iI_neg]
  exact kk
theorem wr_lneg {a : Int} (hi : am_code k pc = some (.lneg)) (hp : pc + 1 = pc') (kk : am_w X d k (pc', ls, .long (lI (-a)) :: st, h) Q) : am_w X d k (pc, ls, .long (lI a) :: st, h) Q := by
  subst hp
  refine am_w.go hi rfl ?_
  rw [lI_neg]
  exact kk
theorem wr_idiv {a b : Int} (hi : am_code k pc = some (.idiv)) (hp : pc + 1 = pc') (hb0 : ¬ b = 0) (ha : -2147483648 ≤ a ∧ a ≤ 2147483647) (hb : -2147483648 ≤ b ∧ b ≤ 2147483647) (kk : am_w X d k (pc', ls, .int (iI (a.tdiv b)) :: st, h) Q) : am_w X d k (pc, ls, .int (iI b) :: .int (iI a) :: st, h) Q := by
  subst hp
  have hne : ¬ iI b = 0 := fun q => hb0 ((iI_eq hb (by omega)).mp (q.trans iI_0.symm))
  refine am_w.go hi (by simp only [am_do, am_dp, am_i2]; rw [if_neg hne]; rfl) ?_
  rw [iI_div ha hb]
  exact kk
theorem wr_irem {a b : Int} (hi : am_code k pc = some (.irem)) (hp : pc + 1 = pc') (hb0 : ¬ b = 0) (ha : -2147483648 ≤ a ∧ a ≤ 2147483647) (hb : -2147483648 ≤ b ∧ b ≤ 2147483647) (kk : am_w X d k (pc', ls, .int (iI (a.tmod b)) :: st, h) Q) : am_w X d k (pc, ls, .int (iI b) :: .int (iI a) :: st, h) Q := by
  subst hp
  have hne : ¬ iI b = 0 := fun q => hb0 ((iI_eq hb (by omega)).mp (q.trans iI_0.symm))
  refine am_w.go hi (by simp only [am_do, am_dp, am_i2]; rw [if_neg hne]; rfl) ?_
  rw [iI_rem ha hb]
  exact kk
theorem wr_ldiv {a b : Int} (hi : am_code k pc = some (.ldiv)) (hp : pc + 1 = pc') (hb0 : ¬ b = 0) (ha : -9223372036854775808 ≤ a ∧ a ≤ 9223372036854775807) (hb : -9223372036854775808 ≤ b ∧ b ≤ 9223372036854775807) (kk : am_w X d k (pc', ls, .long (lI (a.tdiv b)) :: st, h) Q) : am_w X d k (pc, ls, .long (lI b) :: .long (lI a) :: st, h) Q := by
  subst hp
  have hne : ¬ lI b = 0 := fun q => hb0 ((lI_eq hb (by omega)).mp (q.trans lI_0.symm))
  refine am_w.go hi (by simp only [am_do, am_dp, am_l2]; rw [if_neg hne]; rfl) ?_
  rw [lI_div ha hb]
  exact kk
theorem wr_lrem {a b : Int} (hi : am_code k pc = some (.lrem)) (hp : pc + 1 = pc') (hb0 : ¬ b = 0) (ha : -9223372036854775808 ≤ a ∧ a ≤ 9223372036854775807) (hb : -9223372036854775808 ≤ b ∧ b ≤ 9223372036854775807) (kk : am_w X d k (pc', ls, .long (lI (a.tmod b)) :: st, h) Q) : am_w X d k (pc, ls, .long (lI b) :: .long (lI a) :: st, h) Q := by
  subst hp
  have hne : ¬ lI b = 0 := fun q => hb0 ((lI_eq hb (by omega)).mp (q.trans lI_0.symm))
  refine am_w.go hi (by simp only [am_do, am_dp, am_l2]; rw [if_neg hne]; rfl) ?_
  rw [lI_rem ha hb]
  exact kk
theorem wr_idivN {a b : Int} (hi : am_code k pc = some (.idiv)) (hp : pc + 1 = pc') (hb0 : ¬ b = 0) (ha0 : 0 ≤ a) (ha : -2147483648 ≤ a ∧ a ≤ 2147483647) (hb : -2147483648 ≤ b ∧ b ≤ 2147483647) (kk : am_w X d k (pc', ls, .int (iI (a / b)) :: st, h) Q) : am_w X d k (pc, ls, .int (iI b) :: .int (iI a) :: st, h) Q := by
  subst hp
  refine wr_idiv hi rfl hb0 ha hb ?_
  rw [Int.tdiv_eq_ediv_of_nonneg ha0]
  exact kk
theorem wr_iremN {a b : Int} (hi : am_code k pc = some (.irem)) (hp : pc + 1 = pc') (hb0 : ¬ b = 0) (ha0 : 0 ≤ a) (ha : -2147483648 ≤ a ∧ a ≤ 2147483647) (hb : -2147483648 ≤ b ∧ b ≤ 2147483647) (kk : am_w X d k (pc', ls, .int (iI (a % b)) :: st, h) Q) : am_w X d k (pc, ls, .int (iI b) :: .int (iI a) :: st, h) Q := by
  subst hp
  refine wr_irem hi rfl hb0 ha hb ?_
  rw [Int.tmod_eq_emod_of_nonneg ha0]
  exact kk
theorem wr_ldivN {a b : Int} (hi : am_code k pc = some (.ldiv)) (hp : pc + 1 = pc') (hb0 : ¬ b = 0) (ha0 : 0 ≤ a) (ha : -9223372036854775808 ≤ a ∧ a ≤ 9223372036854775807) (hb : -9223372036854775808 ≤ b ∧ b ≤ 9223372036854775807) (kk : am_w X d k (pc', ls, .long (lI (a / b)) :: st, h) Q) : am_w X d k (pc, ls, .long (lI b) :: .long (lI a) :: st, h) Q := by
  subst hp
  refine wr_ldiv hi rfl hb0 ha hb ?_
  rw [Int.tdiv_eq_ediv_of_nonneg ha0]
  exact kk
theorem wr_lremN {a b : Int} (hi : am_code k pc = some (.lrem)) (hp : pc + 1 = pc') (hb0 : ¬ b = 0) (ha0 : 0 ≤ a) (ha : -9223372036854775808 ≤ a ∧ a ≤ 9223372036854775807) (hb : -9223372036854775808 ≤ b ∧ b ≤ 9223372036854775807) (kk : am_w X d k (pc', ls, .long (lI (a % b)) :: st, h) Q) : am_w X d k (pc, ls, .long (lI b) :: .long (lI a) :: st, h) Q := by
  subst hp
  refine wr_lrem hi rfl hb0 ha hb ?_
  rw [Int.tmod_eq_emod_of_nonneg ha0]
  exact kk
theorem wr_i2l {a : Int} (hi : am_code k pc = some (.i2l)) (hp : pc + 1 = pc') (ha : -2147483648 ≤ a ∧ a ≤ 2147483647) (kk : am_w X d k (pc', ls, .long (lI a) :: st, h) Q) : am_w X d k (pc, ls, .int (iI a) :: st, h) Q := by
  subst hp
  refine am_w.go hi rfl ?_
  rw [iI_l ha]
  exact kk
theorem wr_l2i {a : Int} (hi : am_code k pc = some (.l2i)) (hp : pc + 1 = pc') (kk : am_w X d k (pc', ls, .int (iI a) :: st, h) Q) : am_w X d k (pc, ls, .long (lI a) :: st, h) Q := by
  subst hp
  refine am_w.go hi rfl ?_
  rw [lI_i]
  exact kk
theorem wr_lcmp {a b : Int} (hi : am_code k pc = some (.lcmp)) (hp : pc + 1 = pc') (ha : -9223372036854775808 ≤ a ∧ a ≤ 9223372036854775807) (hb : -9223372036854775808 ≤ b ∧ b ≤ 9223372036854775807) (kk : am_w X d k (pc', ls, .int (iI (cmpI a b)) :: st, h) Q) : am_w X d k (pc, ls, .long (lI b) :: .long (lI a) :: st, h) Q := by
  subst hp
  refine am_w.go hi rfl ?_
  rw [lI_cmp ha hb]
  exact kk
theorem wr_if_eq {a : Int} {off : Int} {t : Nat} (hi : am_code k pc = some (.ifCond .eq off)) (hj : am_jmp pc off = some t) (hp : pc + 3 = pc') (ha : -2147483648 ≤ a ∧ a ≤ 2147483647) (kt : a = 0 → am_w X d k (t, ls, st, h) Q) (kf : ¬ (a = 0) → am_w X d k (pc', ls, st, h) Q) : am_w X d k (pc, ls, .int (iI a) :: st, h) Q := by
  subst hp
  have e : (iI a = 0 ↔ a = 0) := by rw [← iI_0]; exact iI_eq ha (by omega)
  by_cases hc : a = 0
  · exact am_w.go (σ' := (t, ls, st, h)) hi (by simp only [am_do, am_dp, am_i1, am_br, hj]; rw [show decide (iI a = 0) = true from decide_eq_true (e.mpr hc)]; rfl) (kt hc)
  · exact am_w.go (σ' := (pc + 3, ls, st, h)) hi (by simp only [am_do, am_dp, am_i1, am_br, hj]; rw [show decide (iI a = 0) = false from decide_eq_false (fun q => hc (e.mp q))]; rfl) (kf hc)
theorem wr_icmp_eq {a b : Int} {off : Int} {t : Nat} (hi : am_code k pc = some (.if_icmp .eq off)) (hj : am_jmp pc off = some t) (hp : pc + 3 = pc') (ha : -2147483648 ≤ a ∧ a ≤ 2147483647) (hb : -2147483648 ≤ b ∧ b ≤ 2147483647) (kt : a = b → am_w X d k (t, ls, st, h) Q) (kf : ¬ (a = b) → am_w X d k (pc', ls, st, h) Q) : am_w X d k (pc, ls, .int (iI b) :: .int (iI a) :: st, h) Q := by
  subst hp
  have e : (iI a = iI b ↔ a = b) := iI_eq ha hb
  by_cases hc : a = b
  · exact am_w.go (σ' := (t, ls, st, h)) hi (by simp only [am_do, am_dp, am_i2, am_br, hj]; rw [show decide (iI a = iI b) = true from decide_eq_true (e.mpr hc)]; rfl) (kt hc)
  · exact am_w.go (σ' := (pc + 3, ls, st, h)) hi (by simp only [am_do, am_dp, am_i2, am_br, hj]; rw [show decide (iI a = iI b) = false from decide_eq_false (fun q => hc (e.mp q))]; rfl) (kf hc)
theorem wr_if_ne {a : Int} {off : Int} {t : Nat} (hi : am_code k pc = some (.ifCond .ne off)) (hj : am_jmp pc off = some t) (hp : pc + 3 = pc') (ha : -2147483648 ≤ a ∧ a ≤ 2147483647) (kt : ¬ a = 0 → am_w X d k (t, ls, st, h) Q) (kf : ¬ (¬ a = 0) → am_w X d k (pc', ls, st, h) Q) : am_w X d k (pc, ls, .int (iI a) :: st, h) Q := by
  subst hp
  have e : (iI a = 0 ↔ a = 0) := by rw [← iI_0]; exact iI_eq ha (by omega)
  by_cases hc : ¬ a = 0
  · exact am_w.go (σ' := (t, ls, st, h)) hi (by simp only [am_do, am_dp, am_i1, am_br, hj]; rw [show decide (¬ iI a = 0) = true from decide_eq_true (fun q => hc (e.mp q))]; rfl) (kt hc)
  · exact am_w.go (σ' := (pc + 3, ls, st, h)) hi (by simp only [am_do, am_dp, am_i1, am_br, hj]; rw [show decide (¬ iI a = 0) = false from decide_eq_false (fun q => hc (fun z => q (e.mpr z)))]; rfl) (kf hc)
theorem wr_icmp_ne {a b : Int} {off : Int} {t : Nat} (hi : am_code k pc = some (.if_icmp .ne off)) (hj : am_jmp pc off = some t) (hp : pc + 3 = pc') (ha : -2147483648 ≤ a ∧ a ≤ 2147483647) (hb : -2147483648 ≤ b ∧ b ≤ 2147483647) (kt : ¬ a = b → am_w X d k (t, ls, st, h) Q) (kf : ¬ (¬ a = b) → am_w X d k (pc', ls, st, h) Q) : am_w X d k (pc, ls, .int (iI b) :: .int (iI a) :: st, h) Q := by
  subst hp
  have e : (iI a = iI b ↔ a = b) := iI_eq ha hb
  by_cases hc : ¬ a = b
  · exact am_w.go (σ' := (t, ls, st, h)) hi (by simp only [am_do, am_dp, am_i2, am_br, hj]; rw [show decide (¬ iI a = iI b) = true from decide_eq_true (fun q => hc (e.mp q))]; rfl) (kt hc)
  · exact am_w.go (σ' := (pc + 3, ls, st, h)) hi (by simp only [am_do, am_dp, am_i2, am_br, hj]; rw [show decide (¬ iI a = iI b) = false from decide_eq_false (fun q => hc (fun z => q (e.mpr z)))]; rfl) (kf hc)
theorem wr_if_lt {a : Int} {off : Int} {t : Nat} (hi : am_code k pc = some (.ifCond .lt off)) (hj : am_jmp pc off = some t) (hp : pc + 3 = pc') (ha : -2147483648 ≤ a ∧ a ≤ 2147483647) (kt : a < 0 → am_w X d k (t, ls, st, h) Q) (kf : ¬ (a < 0) → am_w X d k (pc', ls, st, h) Q) : am_w X d k (pc, ls, .int (iI a) :: st, h) Q := by
  subst hp
  have e : (iI a < 0 ↔ a < 0) := by rw [← iI_0]; exact iI_lt ha (by omega)
  by_cases hc : a < 0
  · exact am_w.go (σ' := (t, ls, st, h)) hi (by simp only [am_do, am_dp, am_i1, am_br, hj]; rw [show decide (iI a < 0) = true from decide_eq_true (e.mpr hc)]; rfl) (kt hc)
  · exact am_w.go (σ' := (pc + 3, ls, st, h)) hi (by simp only [am_do, am_dp, am_i1, am_br, hj]; rw [show decide (iI a < 0) = false from decide_eq_false (fun q => hc (e.mp q))]; rfl) (kf hc)
theorem wr_icmp_lt {a b : Int} {off : Int} {t : Nat} (hi : am_code k pc = some (.if_icmp .lt off)) (hj : am_jmp pc off = some t) (hp : pc + 3 = pc') (ha : -2147483648 ≤ a ∧ a ≤ 2147483647) (hb : -2147483648 ≤ b ∧ b ≤ 2147483647) (kt : a < b → am_w X d k (t, ls, st, h) Q) (kf : ¬ (a < b) → am_w X d k (pc', ls, st, h) Q) : am_w X d k (pc, ls, .int (iI b) :: .int (iI a) :: st, h) Q := by
  subst hp
  have e : (iI a < iI b ↔ a < b) := iI_lt ha hb
  by_cases hc : a < b
  · exact am_w.go (σ' := (t, ls, st, h)) hi (by simp only [am_do, am_dp, am_i2, am_br, hj]; rw [show decide (iI a < iI b) = true from decide_eq_true (e.mpr hc)]; rfl) (kt hc)
  · exact am_w.go (σ' := (pc + 3, ls, st, h)) hi (by simp only [am_do, am_dp, am_i2, am_br, hj]; rw [show decide (iI a < iI b) = false from decide_eq_false (fun q => hc (e.mp q))]; rfl) (kf hc)
theorem wr_if_ge {a : Int} {off : Int} {t : Nat} (hi : am_code k pc = some (.ifCond .ge off)) (hj : am_jmp pc off = some t) (hp : pc + 3 = pc') (ha : -2147483648 ≤ a ∧ a ≤ 2147483647) (kt : 0 ≤ a → am_w X d k (t, ls, st, h) Q) (kf : ¬ (0 ≤ a) → am_w X d k (pc', ls, st, h) Q) : am_w X d k (pc, ls, .int (iI a) :: st, h) Q := by
  subst hp
  have e : (0 ≤ iI a ↔ 0 ≤ a) := by rw [← iI_0]; exact iI_le (by omega) ha
  by_cases hc : 0 ≤ a
  · exact am_w.go (σ' := (t, ls, st, h)) hi (by simp only [am_do, am_dp, am_i1, am_br, hj]; rw [show decide (0 ≤ iI a) = true from decide_eq_true (e.mpr hc)]; rfl) (kt hc)
  · exact am_w.go (σ' := (pc + 3, ls, st, h)) hi (by simp only [am_do, am_dp, am_i1, am_br, hj]; rw [show decide (0 ≤ iI a) = false from decide_eq_false (fun q => hc (e.mp q))]; rfl) (kf hc)
theorem wr_icmp_ge {a b : Int} {off : Int} {t : Nat} (hi : am_code k pc = some (.if_icmp .ge off)) (hj : am_jmp pc off = some t) (hp : pc + 3 = pc') (ha : -2147483648 ≤ a ∧ a ≤ 2147483647) (hb : -2147483648 ≤ b ∧ b ≤ 2147483647) (kt : b ≤ a → am_w X d k (t, ls, st, h) Q) (kf : ¬ (b ≤ a) → am_w X d k (pc', ls, st, h) Q) : am_w X d k (pc, ls, .int (iI b) :: .int (iI a) :: st, h) Q := by
  subst hp
  have e : (iI b ≤ iI a ↔ b ≤ a) := iI_le hb ha
  by_cases hc : b ≤ a
  · exact am_w.go (σ' := (t, ls, st, h)) hi (by simp only [am_do, am_dp, am_i2, am_br, hj]; rw [show decide (iI b ≤ iI a) = true from decide_eq_true (e.mpr hc)]; rfl) (kt hc)
  · exact am_w.go (σ' := (pc + 3, ls, st, h)) hi (by simp only [am_do, am_dp, am_i2, am_br, hj]; rw [show decide (iI b ≤ iI a) = false from decide_eq_false (fun q => hc (e.mp q))]; rfl) (kf hc)
theorem wr_if_gt {a : Int} {off : Int} {t : Nat} (hi : am_code k pc = some (.ifCond .gt off)) (hj : am_jmp pc off = some t) (hp : pc + 3 = pc') (ha : -2147483648 ≤ a ∧ a ≤ 2147483647) (kt : 0 < a → am_w X d k (t, ls, st, h) Q) (kf : ¬ (0 < a) → am_w X d k (pc', ls, st, h) Q) : am_w X d k (pc, ls, .int (iI a) :: st, h) Q := by
  subst hp
  have e : (0 < iI a ↔ 0 < a) := by rw [← iI_0]; exact iI_lt (by omega) ha
  by_cases hc : 0 < a
  · exact am_w.go (σ' := (t, ls, st, h)) hi (by simp only [am_do, am_dp, am_i1, am_br, hj]; rw [show decide (0 < iI a) = true from decide_eq_true (e.mpr hc)]; rfl) (kt hc)
  · exact am_w.go (σ' := (pc + 3, ls, st, h)) hi (by simp only [am_do, am_dp, am_i1, am_br, hj]; rw [show decide (0 < iI a) = false from decide_eq_false (fun q => hc (e.mp q))]; rfl) (kf hc)
theorem wr_icmp_gt {a b : Int} {off : Int} {t : Nat} (hi : am_code k pc = some (.if_icmp .gt off)) (hj : am_jmp pc off = some t) (hp : pc + 3 = pc') (ha : -2147483648 ≤ a ∧ a ≤ 2147483647) (hb : -2147483648 ≤ b ∧ b ≤ 2147483647) (kt : b < a → am_w X d k (t, ls, st, h) Q) (kf : ¬ (b < a) → am_w X d k (pc', ls, st, h) Q) : am_w X d k (pc, ls, .int (iI b) :: .int (iI a) :: st, h) Q := by
  subst hp
  have e : (iI b < iI a ↔ b < a) := iI_lt hb ha
  by_cases hc : b < a
  · exact am_w.go (σ' := (t, ls, st, h)) hi (by simp only [am_do, am_dp, am_i2, am_br, hj]; rw [show decide (iI b < iI a) = true from decide_eq_true (e.mpr hc)]; rfl) (kt hc)
  · exact am_w.go (σ' := (pc + 3, ls, st, h)) hi (by simp only [am_do, am_dp, am_i2, am_br, hj]; rw [show decide (iI b < iI a) = false from decide_eq_false (fun q => hc (e.mp q))]; rfl) (kf hc)
theorem wr_if_le {a : Int} {off : Int} {t : Nat} (hi : am_code k pc = some (.ifCond .le off)) (hj : am_jmp pc off = some t) (hp : pc + 3 = pc') (ha : -2147483648 ≤ a ∧ a ≤ 2147483647) (kt : a ≤ 0 → am_w X d k (t, ls, st, h) Q) (kf : ¬ (a ≤ 0) → am_w X d k (pc', ls, st, h) Q) : am_w X d k (pc, ls, .int (iI a) :: st, h) Q := by
  subst hp
  have e : (iI a ≤ 0 ↔ a ≤ 0) := by rw [← iI_0]; exact iI_le ha (by omega)
  by_cases hc : a ≤ 0
  · exact am_w.go (σ' := (t, ls, st, h)) hi (by simp only [am_do, am_dp, am_i1, am_br, hj]; rw [show decide (iI a ≤ 0) = true from decide_eq_true (e.mpr hc)]; rfl) (kt hc)
  · exact am_w.go (σ' := (pc + 3, ls, st, h)) hi (by simp only [am_do, am_dp, am_i1, am_br, hj]; rw [show decide (iI a ≤ 0) = false from decide_eq_false (fun q => hc (e.mp q))]; rfl) (kf hc)
theorem wr_icmp_le {a b : Int} {off : Int} {t : Nat} (hi : am_code k pc = some (.if_icmp .le off)) (hj : am_jmp pc off = some t) (hp : pc + 3 = pc') (ha : -2147483648 ≤ a ∧ a ≤ 2147483647) (hb : -2147483648 ≤ b ∧ b ≤ 2147483647) (kt : a ≤ b → am_w X d k (t, ls, st, h) Q) (kf : ¬ (a ≤ b) → am_w X d k (pc', ls, st, h) Q) : am_w X d k (pc, ls, .int (iI b) :: .int (iI a) :: st, h) Q := by
  subst hp
  have e : (iI a ≤ iI b ↔ a ≤ b) := iI_le ha hb
  by_cases hc : a ≤ b
  · exact am_w.go (σ' := (t, ls, st, h)) hi (by simp only [am_do, am_dp, am_i2, am_br, hj]; rw [show decide (iI a ≤ iI b) = true from decide_eq_true (e.mpr hc)]; rfl) (kt hc)
  · exact am_w.go (σ' := (pc + 3, ls, st, h)) hi (by simp only [am_do, am_dp, am_i2, am_br, hj]; rw [show decide (iI a ≤ iI b) = false from decide_eq_false (fun q => hc (e.mp q))]; rfl) (kf hc)
theorem wr_l_eq {a b : Int} {off : Int} {t pc1 : Nat} (hi : am_code k pc = some .lcmp) (hp1 : pc + 1 = pc1) (hi2 : am_code k pc1 = some (.ifCond .eq off)) (hj : am_jmp pc1 off = some t) (hp : pc1 + 3 = pc') (ha : -9223372036854775808 ≤ a ∧ a ≤ 9223372036854775807) (hb : -9223372036854775808 ≤ b ∧ b ≤ 9223372036854775807) (kt : a = b → am_w X d k (t, ls, st, h) Q) (kf : ¬ (a = b) → am_w X d k (pc', ls, st, h) Q) : am_w X d k (pc, ls, .long (lI b) :: .long (lI a) :: st, h) Q := by
  refine wr_lcmp hi hp1 ha hb ?_
  have hc : -2147483648 ≤ cmpI a b ∧ cmpI a b ≤ 2147483647 := by have := cmpI_cases a b; omega
  refine wr_if_eq hi2 hj hp hc (fun c => kt ?_) (fun c => kf ?_)
  · have := cmpI_cases a b; omega
  · have := cmpI_cases a b; omega
theorem wr_l_ne {a b : Int} {off : Int} {t pc1 : Nat} (hi : am_code k pc = some .lcmp) (hp1 : pc + 1 = pc1) (hi2 : am_code k pc1 = some (.ifCond .ne off)) (hj : am_jmp pc1 off = some t) (hp : pc1 + 3 = pc') (ha : -9223372036854775808 ≤ a ∧ a ≤ 9223372036854775807) (hb : -9223372036854775808 ≤ b ∧ b ≤ 9223372036854775807) (kt : ¬ a = b → am_w X d k (t, ls, st, h) Q) (kf : ¬ (¬ a = b) → am_w X d k (pc', ls, st, h) Q) : am_w X d k (pc, ls, .long (lI b) :: .long (lI a) :: st, h) Q := by
  refine wr_lcmp hi hp1 ha hb ?_
  have hc : -2147483648 ≤ cmpI a b ∧ cmpI a b ≤ 2147483647 := by have := cmpI_cases a b; omega
  refine wr_if_ne hi2 hj hp hc (fun c => kt ?_) (fun c => kf ?_)
  · have := cmpI_cases a b; omega
  · have := cmpI_cases a b; omega
theorem wr_l_lt {a b : Int} {off : Int} {t pc1 : Nat} (hi : am_code k pc = some .lcmp) (hp1 : pc + 1 = pc1) (hi2 : am_code k pc1 = some (.ifCond .lt off)) (hj : am_jmp pc1 off = some t) (hp : pc1 + 3 = pc') (ha : -9223372036854775808 ≤ a ∧ a ≤ 9223372036854775807) (hb : -9223372036854775808 ≤ b ∧ b ≤ 9223372036854775807) (kt : a < b → am_w X d k (t, ls, st, h) Q) (kf : ¬ (a < b) → am_w X d k (pc', ls, st, h) Q) : am_w X d k (pc, ls, .long (lI b) :: .long (lI a) :: st, h) Q := by
  refine wr_lcmp hi hp1 ha hb ?_
  have hc : -2147483648 ≤ cmpI a b ∧ cmpI a b ≤ 2147483647 := by have := cmpI_cases a b; omega
  refine wr_if_lt hi2 hj hp hc (fun c => kt ?_) (fun c => kf ?_)
  · have := cmpI_cases a b; omega
  · have := cmpI_cases a b; omega
theorem wr_l_ge {a b : Int} {off : Int} {t pc1 : Nat} (hi : am_code k pc = some .lcmp) (hp1 : pc + 1 = pc1) (hi2 : am_code k pc1 = some (.ifCond .ge off)) (hj : am_jmp pc1 off = some t) (hp : pc1 + 3 = pc') (ha : -9223372036854775808 ≤ a ∧ a ≤ 9223372036854775807) (hb : -9223372036854775808 ≤ b ∧ b ≤ 9223372036854775807) (kt : b ≤ a → am_w X d k (t, ls, st, h) Q) (kf : ¬ (b ≤ a) → am_w X d k (pc', ls, st, h) Q) : am_w X d k (pc, ls, .long (lI b) :: .long (lI a) :: st, h) Q := by
  refine wr_lcmp hi hp1 ha hb ?_
  have hc : -2147483648 ≤ cmpI a b ∧ cmpI a b ≤ 2147483647 := by have := cmpI_cases a b; omega
  refine wr_if_ge hi2 hj hp hc (fun c => kt ?_) (fun c => kf ?_)
  · have := cmpI_cases a b; omega
  · have := cmpI_cases a b; omega
theorem wr_l_gt {a b : Int} {off : Int} {t pc1 : Nat} (hi : am_code k pc = some .lcmp) (hp1 : pc + 1 = pc1) (hi2 : am_code k pc1 = some (.ifCond .gt off)) (hj : am_jmp pc1 off = some t) (hp : pc1 + 3 = pc') (ha : -9223372036854775808 ≤ a ∧ a ≤ 9223372036854775807) (hb : -9223372036854775808 ≤ b ∧ b ≤ 9223372036854775807) (kt : b < a → am_w X d k (t, ls, st, h) Q) (kf : ¬ (b < a) → am_w X d k (pc', ls, st, h) Q) : am_w X d k (pc, ls, .long (lI b) :: .long (lI a) :: st, h) Q := by
  refine wr_lcmp hi hp1 ha hb ?_
  have hc : -2147483648 ≤ cmpI a b ∧ cmpI a b ≤ 2147483647 := by have := cmpI_cases a b; omega
  refine wr_if_gt hi2 hj hp hc (fun c => kt ?_) (fun c => kf ?_)
  · have := cmpI_cases a b; omega
  · have := cmpI_cases a b; omega
theorem wr_l_le {a b : Int} {off : Int} {t pc1 : Nat} (hi : am_code k pc = some .lcmp) (hp1 : pc + 1 = pc1) (hi2 : am_code k pc1 = some (.ifCond .le off)) (hj : am_jmp pc1 off = some t) (hp : pc1 + 3 = pc') (ha : -9223372036854775808 ≤ a ∧ a ≤ 9223372036854775807) (hb : -9223372036854775808 ≤ b ∧ b ≤ 9223372036854775807) (kt : a ≤ b → am_w X d k (t, ls, st, h) Q) (kf : ¬ (a ≤ b) → am_w X d k (pc', ls, st, h) Q) : am_w X d k (pc, ls, .long (lI b) :: .long (lI a) :: st, h) Q := by
  refine wr_lcmp hi hp1 ha hb ?_
  have hc : -2147483648 ≤ cmpI a b ∧ cmpI a b ≤ 2147483647 := by have := cmpI_cases a b; omega
  refine wr_if_le hi2 hj hp hc (fun c => kt ?_) (fun c => kf ?_)
  · have := cmpI_cases a b; omega
  · have := cmpI_cases a b; omega
theorem wr_goto {off : Int} (hi : am_code k pc = some (.goto off)) (hj : am_jmp pc off = some pc') (kk : am_w X d k (pc', ls, st, h) Q) : am_w X d k (pc, ls, st, h) Q := am_w.go hi (by simp only [am_do, am_dp, am_go, hj]; rfl) kk
theorem wr_acmp_eq {a b : Nat} {off : Int} {t : Nat} (hi : am_code k pc = some (.if_acmp .eq off)) (hj : am_jmp pc off = some t) (hp : pc + 3 = pc') (kt : a = b → am_w X d k (t, ls, st, h) Q) (kf : ¬ (a = b) → am_w X d k (pc', ls, st, h) Q) : am_w X d k (pc, ls, .ref b :: .ref a :: st, h) Q := by
  subst hp
  by_cases hc : a = b
  · exact am_w.go (σ' := (t, ls, st, h)) hi (by simp only [am_do, am_dp, am_r2, am_br, hj]; rw [show decide (a = b) = true from decide_eq_true hc]; rfl) (kt hc)
  · exact am_w.go (σ' := (pc + 3, ls, st, h)) hi (by simp only [am_do, am_dp, am_r2, am_br, hj]; rw [show decide (a = b) = false from decide_eq_false hc]; rfl) (kf hc)
theorem wr_acmp_ne {a b : Nat} {off : Int} {t : Nat} (hi : am_code k pc = some (.if_acmp .ne off)) (hj : am_jmp pc off = some t) (hp : pc + 3 = pc') (kt : ¬ a = b → am_w X d k (t, ls, st, h) Q) (kf : ¬ (¬ a = b) → am_w X d k (pc', ls, st, h) Q) : am_w X d k (pc, ls, .ref b :: .ref a :: st, h) Q := by
  subst hp
  by_cases hc : ¬ a = b
  · exact am_w.go (σ' := (t, ls, st, h)) hi (by simp only [am_do, am_dp, am_r2, am_br, hj]; rw [show decide (¬ a = b) = true from decide_eq_true hc]; rfl) (kt hc)
  · exact am_w.go (σ' := (pc + 3, ls, st, h)) hi (by simp only [am_do, am_dp, am_r2, am_br, hj]; rw [show decide (¬ a = b) = false from decide_eq_false hc]; rfl) (kf hc)
theorem wr_iald {a n : Nat} {g : Nat → Int} {j : Int} (hi : am_code k pc = some (.iaload)) (hp : pc + 1 = pc') (hc : h[a]? = some (am_ia n g)) (hj : 0 ≤ j ∧ j < n) (hn : (n : Int) ≤ 2147483648) (kk : am_w X d k (pc', ls, .int (iI (g j.toNat)) :: st, h) Q) : am_w X d k (pc, ls, .int (iI j) :: .ref a :: st, h) Q := by
  subst hp
  refine am_w.go (σ' := (pc + 1, ls, .int (iI (g (iI j).toNatClampNeg)) :: st, h)) hi (by simp only [am_do, am_dp, am_iald, hc, am_out_I hj hn]; rfl) ?_
  rw [iI_clamp (by omega)]
  exact kk
theorem wr_lald {a n : Nat} {g : Nat → Int} {j : Int} (hi : am_code k pc = some (.laload)) (hp : pc + 1 = pc') (hc : h[a]? = some (am_la n g)) (hj : 0 ≤ j ∧ j < n) (hn : (n : Int) ≤ 2147483648) (kk : am_w X d k (pc', ls, .long (lI (g j.toNat)) :: st, h) Q) : am_w X d k (pc, ls, .int (iI j) :: .ref a :: st, h) Q := by
  subst hp
  refine am_w.go (σ' := (pc + 1, ls, .long (lI (g (iI j).toNatClampNeg)) :: st, h)) hi (by simp only [am_do, am_dp, am_lald, hc, am_out_I hj hn]; rfl) ?_
  rw [iI_clamp (by omega)]
  exact kk
theorem wr_zald {a n : Nat} {g : Nat → Int} {j : Int} (hi : am_code k pc = some (.baload)) (hp : pc + 1 = pc') (hc : h[a]? = some (am_za n g)) (hj : 0 ≤ j ∧ j < n) (hn : (n : Int) ≤ 2147483648) (kk : am_w X d k (pc', ls, .int (iI (g j.toNat)) :: st, h) Q) : am_w X d k (pc, ls, .int (iI j) :: .ref a :: st, h) Q := by
  subst hp
  refine am_w.go (σ' := (pc + 1, ls, .int (iI (g (iI j).toNatClampNeg)) :: st, h)) hi (by simp only [am_do, am_dp, am_zald, hc, am_out_I hj hn]; rfl) ?_
  rw [iI_clamp (by omega)]
  exact kk
theorem wr_iast {a n : Nat} {g : Nat → Int} {j x : Int} (hi : am_code k pc = some .iastore) (hp : pc + 1 = pc') (hc : h[a]? = some (am_ia n g)) (hj : 0 ≤ j ∧ j < n) (hn : (n : Int) ≤ 2147483648) (kk : ∀ h1 : am_H, h1 = h.set a (am_ia n (updI g j.toNat x)) → am_w X d k (pc', ls, st, h1) Q) : am_w X d k (pc, ls, .int (iI x) :: .int (iI j) :: .ref a :: st, h) Q := by
  subst hp
  refine am_w.go (σ' := (pc + 1, ls, st, h.set a (.inl (0, n, .inl (upd (fun j => iI (g j)) (iI j).toNatClampNeg (iI x)))))) hi (by simp only [am_do, am_dp, am_iast, hc, am_out_I hj hn]; rfl) ?_
  rw [upd_iI, iI_clamp (by omega)]
  exact kk _ rfl
theorem wr_last {a n : Nat} {g : Nat → Int} {j x : Int} (hi : am_code k pc = some .lastore) (hp : pc + 1 = pc') (hc : h[a]? = some (am_la n g)) (hj : 0 ≤ j ∧ j < n) (hn : (n : Int) ≤ 2147483648) (kk : ∀ h1 : am_H, h1 = h.set a (am_la n (updI g j.toNat x)) → am_w X d k (pc', ls, st, h1) Q) : am_w X d k (pc, ls, .long (lI x) :: .int (iI j) :: .ref a :: st, h) Q := by
  subst hp
  refine am_w.go (σ' := (pc + 1, ls, st, h.set a (.inl (1, n, .inr (.inl (vp_updL (fun j => lI (g j)) (iI j).toNatClampNeg (lI x))))))) hi (by simp only [am_do, am_dp, am_last, hc, am_out_I hj hn]; rfl) ?_
  rw [upd_lI, iI_clamp (by omega)]
  exact kk _ rfl
theorem wr_ialX {j : Int} (hi : am_code k pc = some (.iaload)) (hp : pc + 1 = pc') (hj : 0 ≤ j ∧ j < X.1) (hn : (X.1 : Int) ≤ 2147483648) (kk : am_w X d k (pc', ls, .int (X.2 j.toNat) :: st, h) Q) : am_w X d k (pc, ls, .int (iI j) :: am_X :: st, h) Q := by
  subst hp
  refine am_w.go (σ' := (pc + 1, ls, .int (X.2 (iI j).toNatClampNeg) :: st, h)) hi (by simp only [am_do, am_dp, am_iald, am_out_I hj hn]; rfl) ?_
  rw [iI_clamp (by omega)]
  exact kk
theorem wr_alenI {a n : Nat} {g : Nat → Int} (hi : am_code k pc = some (.arraylength)) (hp : pc + 1 = pc') (hc : h[a]? = some (am_ia n g)) (kk : am_w X d k (pc', ls, .int (iI n) :: st, h) Q) : am_w X d k (pc, ls, .ref a :: st, h) Q := by
  subst hp
  exact am_w.go hi (by simp only [am_do, am_dp, am_alen, hc]; rfl) kk
theorem wr_alenL {a n : Nat} {g : Nat → Int} (hi : am_code k pc = some (.arraylength)) (hp : pc + 1 = pc') (hc : h[a]? = some (am_la n g)) (kk : am_w X d k (pc', ls, .int (iI n) :: st, h) Q) : am_w X d k (pc, ls, .ref a :: st, h) Q := by
  subst hp
  exact am_w.go hi (by simp only [am_do, am_dp, am_alen, hc]; rfl) kk
theorem wr_alen {a n kd : Nat} {y : (Nat → Int32) ⊕ (Nat → Int64) ⊕ (Nat → UInt32) ⊕ (Nat → UInt64) ⊕ (Nat → Option Nat)} (hi : am_code k pc = some (.arraylength)) (hp : pc + 1 = pc') (hc : h[a]? = some (.inl (kd, n, y))) (hk : kd < 2) (kk : am_w X d k (pc', ls, .int (iI n) :: st, h) Q) : am_w X d k (pc, ls, .ref a :: st, h) Q := by
  subst hp
  match kd, hk with
  | 0, _ => exact am_w.go hi (by simp only [am_do, am_dp, am_alen, hc]; rfl) kk
  | 1, _ => exact am_w.go hi (by simp only [am_do, am_dp, am_alen, hc]; rfl) kk
theorem wr_alenX (hi : am_code k pc = some (.arraylength)) (hp : pc + 1 = pc') (kk : am_w X d k (pc', ls, .int (iI X.1) :: st, h) Q) : am_w X d k (pc, ls, am_X :: st, h) Q := by
  subst hp
  exact am_w.go hi rfl kk
theorem wr_get {j ci f a : Nat} {fs : List Value} {v : Value} (hi : am_code k pc = some (.getfield j)) (hp : pc + 3 = pc') (hf : am_fld (am_own k) j = some (ci, f)) (hc : h[a]? = some (.inr (ci, fs))) (hv : fs[f]? = some v) (kk : am_w X d k (pc', ls, v :: st, h) Q) : am_w X d k (pc, ls, .ref a :: st, h) Q := by
  subst hp
  exact am_w.go hi (by simp only [am_do, am_dp, am_getf, hf, hc, hv, beq_self_eq_true]; rfl) kk
theorem wr_put {j ci f a : Nat} {fs fs' : List Value} {v : Value} (hi : am_code k pc = some (.putfield j)) (hp : pc + 3 = pc') (hf : am_fld (am_own k) j = some (ci, f)) (hc : h[a]? = some (.inr (ci, fs))) (hok : (decide (f < fs.length) && (!(am_fin ci f) || am_ctor k ci) && decide (narrow (am_fty ci f) v = v) && fits (am_fty ci f) v) = true) (hs : fs.set f v = fs') (kk : ∀ h1 : am_H, h1 = h.set a (.inr (ci, fs')) → am_w X d k (pc', ls, st, h1) Q) : am_w X d k (pc, ls, v :: .ref a :: st, h) Q := by
  subst hp
  subst hs
  refine am_w.go (σ' := (pc + 3, ls, st, h.set a (.inr (ci, fs.set f v)))) hi ?_ (kk _ rfl)
  simp only [am_do, am_dp, am_putf, hf, hc]
  rw [beq_self_eq_true, Bool.true_and, hok]
  rfl
theorem wr_putI {j ci f a : Nat} {fs fs' : List Value} {x : Int32} (hi : am_code k pc = some (.putfield j)) (hp : pc + 3 = pc') (hf : am_fld (am_own k) j = some (ci, f)) (hc : h[a]? = some (.inr (ci, fs))) (hty : am_fty ci f = .int) (hok : (decide (f < fs.length) && (!(am_fin ci f) || am_ctor k ci)) = true) (hs : fs.set f (.int x) = fs') (kk : ∀ h1 : am_H, h1 = h.set a (.inr (ci, fs')) → am_w X d k (pc', ls, st, h1) Q) : am_w X d k (pc, ls, .int x :: .ref a :: st, h) Q := by
  refine wr_put hi hp hf hc ?_ hs kk
  rw [hty, hok]
  simp [narrow, fits]
theorem wr_putL {j ci f a : Nat} {fs fs' : List Value} {x : Int64} (hi : am_code k pc = some (.putfield j)) (hp : pc + 3 = pc') (hf : am_fld (am_own k) j = some (ci, f)) (hc : h[a]? = some (.inr (ci, fs))) (hty : am_fty ci f = .long) (hok : (decide (f < fs.length) && (!(am_fin ci f) || am_ctor k ci)) = true) (hs : fs.set f (.long x) = fs') (kk : ∀ h1 : am_H, h1 = h.set a (.inr (ci, fs')) → am_w X d k (pc', ls, st, h1) Q) : am_w X d k (pc, ls, .long x :: .ref a :: st, h) Q := by
  refine wr_put hi hp hf hc ?_ hs kk
  rw [hty, hok]
  simp [narrow, fits]
theorem wr_putR {j ci f a : Nat} {fs fs' : List Value} {x : Nat} {C : String} (hi : am_code k pc = some (.putfield j)) (hp : pc + 3 = pc') (hf : am_fld (am_own k) j = some (ci, f)) (hc : h[a]? = some (.inr (ci, fs))) (hty : am_fty ci f = .object C) (hok : (decide (f < fs.length) && (!(am_fin ci f) || am_ctor k ci)) = true) (hs : fs.set f (.ref x) = fs') (kk : ∀ h1 : am_H, h1 = h.set a (.inr (ci, fs')) → am_w X d k (pc', ls, st, h1) Q) : am_w X d k (pc, ls, .ref x :: .ref a :: st, h) Q := by
  refine wr_put hi hp hf hc ?_ hs kk
  rw [hty, hok]
  simp [narrow, fits]
theorem wr_putA {j ci f a : Nat} {fs fs' : List Value} {x : Nat} {C : FieldType} (hi : am_code k pc = some (.putfield j)) (hp : pc + 3 = pc') (hf : am_fld (am_own k) j = some (ci, f)) (hc : h[a]? = some (.inr (ci, fs))) (hty : am_fty ci f = .array C) (hok : (decide (f < fs.length) && (!(am_fin ci f) || am_ctor k ci)) = true) (hs : fs.set f (.ref x) = fs') (kk : ∀ h1 : am_H, h1 = h.set a (.inr (ci, fs')) → am_w X d k (pc', ls, st, h1) Q) : am_w X d k (pc, ls, .ref x :: .ref a :: st, h) Q := by
  refine wr_put hi hp hf hc ?_ hs kk
  rw [hty, hok]
  simp [narrow, fits]
theorem wr_putZ {j ci f a : Nat} {fs fs' : List Value} {x : Int32} (hi : am_code k pc = some (.putfield j)) (hp : pc + 3 = pc') (hf : am_fld (am_own k) j = some (ci, f)) (hc : h[a]? = some (.inr (ci, fs))) (hty : am_fty ci f = .boolean) (hok : (decide (f < fs.length) && (!(am_fin ci f) || am_ctor k ci)) = true) (hx : x = iI 0 ∨ x = iI 1) (hs : fs.set f (.int x) = fs') (kk : ∀ h1 : am_H, h1 = h.set a (.inr (ci, fs')) → am_w X d k (pc', ls, st, h1) Q) : am_w X d k (pc, ls, .int x :: .ref a :: st, h) Q := by
  refine wr_put hi hp hf hc ?_ hs kk
  rw [hty, hok]
  rcases hx with rfl | rfl <;> decide
theorem wr_iret {a : Int} (hi : am_code k pc = some .ireturn) (hr : am_ret k = some .int) (hq : Q (some (.int (iI a))) h) : am_w X d k (pc, ls, [.int (iI a)], h) Q := am_w.ret hi (by simp only [am_rt, hr, narrow, if_true]) hq
theorem wr_zret {a : Int} (hi : am_code k pc = some .ireturn) (hr : am_ret k = some .boolean) (ha : iI a &&& 1 = iI a) (hq : Q (some (.int (iI a))) h) : am_w X d k (pc, ls, [.int (iI a)], h) Q := am_w.ret hi (by simp only [am_rt, hr, narrow, ha, if_true]) hq
theorem wr_lret {a : Int} (hi : am_code k pc = some .lreturn) (hr : am_ret k = some .long) (hq : Q (some (.long (lI a))) h) : am_w X d k (pc, ls, [.long (lI a)], h) Q := am_w.ret hi (by simp only [am_rt, hr, if_true]) hq
theorem wr_vret (hi : am_code k pc = some .return_) (hr : am_ret k = none) (hq : Q none h) : am_w X d k (pc, ls, [], h) Q := am_w.ret hi (by simp only [am_rt, hr, if_true]) hq
theorem wr_aret {a : Nat} {C : String} (hi : am_code k pc = some .areturn) (hr : am_ret k = some (.object C)) (hq : Q (some (.ref a)) h) : am_w X d k (pc, ls, [.ref a], h) Q := am_w.ret hi (by simp only [am_rt, hr]) hq
theorem wr_cv0 {j k' : Nat} {a : Nat} {ci : Nat} {fs : List Value} {Q' : Option Value → am_H → Prop} (hi : am_code k pc = some (.invokevirtual j)) (hp : pc + 3 = pc') (hm : am_met (am_own k) j = some (1, k', 0)) (hmay : am_may k k' = true) (hc : h[a]? = some (.inr (ci, fs))) (hr : am_rcv k' = ci) (hlow : am_low st = true) (hC : am_c X d k' [.ref a] h Q') (kk : ∀ r h', Q' r h' → am_w X d k (pc', ls, r.toList ++ st, h') Q) : am_w X d k (pc, ls, .ref a :: st, h) Q := by
  subst hp
  subst hr
  refine am_w.call (k' := k') (as := [.ref a]) (pc' := pc + 3) (ls' := ls) (st' := st) (h0 := h) hi ?_ hC kk
  simp [am_cl, am_inv, hm, hmay, hlow, hc]
theorem wr_ci0 {j k' : Nat} {a : Nat} {Q' : Option Value → am_H → Prop} (hi : am_code k pc = some (.invokespecial j)) (hp : pc + 3 = pc') (hm : am_met (am_own k) j = some (2, k', 0)) (hmay : am_may k k' = true) (hlow : am_low st = true) (hC : am_c X d k' [.ref a] h Q') (kk : ∀ r h', Q' r h' → am_w X d k (pc', ls, r.toList ++ st, h') Q) : am_w X d k (pc, ls, .ref a :: st, h) Q := by
  subst hp
  refine am_w.call (k' := k') (as := [.ref a]) (pc' := pc + 3) (ls' := ls) (st' := st) (h0 := h) hi ?_ hC kk
  simp [am_cl, am_inv, hm, hmay, hlow]
theorem wr_cs0 {j k' : Nat} {Q' : Option Value → am_H → Prop} (hi : am_code k pc = some (.invokestatic j)) (hp : pc + 3 = pc') (hm : am_met (am_own k) j = some (0, k', 0)) (hmay : am_may k k' = true) (hlow : am_low st = true) (hC : am_c X d k' [] h Q') (kk : ∀ r h', Q' r h' → am_w X d k (pc', ls, r.toList ++ st, h') Q) : am_w X d k (pc, ls, st, h) Q := by
  subst hp
  refine am_w.call (k' := k') (as := []) (pc' := pc + 3) (ls' := ls) (st' := st) (h0 := h) hi ?_ hC kk
  simp [am_cl, am_inv, hm, hmay, hlow]
theorem wr_cv1 {j k' : Nat} {a : Nat} {ci : Nat} {fs : List Value} {v1 : Value} {Q' : Option Value → am_H → Prop} (hi : am_code k pc = some (.invokevirtual j)) (hp : pc + 3 = pc') (hm : am_met (am_own k) j = some (1, k', 1)) (hmay : am_may k k' = true) (hc : h[a]? = some (.inr (ci, fs))) (hr : am_rcv k' = ci) (hlow : am_low st = true) (hC : am_c X d k' [.ref a, v1] h Q') (kk : ∀ r h', Q' r h' → am_w X d k (pc', ls, r.toList ++ st, h') Q) : am_w X d k (pc, ls, v1 :: .ref a :: st, h) Q := by
  subst hp
  subst hr
  refine am_w.call (k' := k') (as := [.ref a, v1]) (pc' := pc + 3) (ls' := ls) (st' := st) (h0 := h) hi ?_ hC kk
  simp [am_cl, am_inv, hm, hmay, hlow, hc]
theorem wr_ci1 {j k' : Nat} {a : Nat} {v1 : Value} {Q' : Option Value → am_H → Prop} (hi : am_code k pc = some (.invokespecial j)) (hp : pc + 3 = pc') (hm : am_met (am_own k) j = some (2, k', 1)) (hmay : am_may k k' = true) (hlow : am_low st = true) (hC : am_c X d k' [.ref a, v1] h Q') (kk : ∀ r h', Q' r h' → am_w X d k (pc', ls, r.toList ++ st, h') Q) : am_w X d k (pc, ls, v1 :: .ref a :: st, h) Q := by
  subst hp
  refine am_w.call (k' := k') (as := [.ref a, v1]) (pc' := pc + 3) (ls' := ls) (st' := st) (h0 := h) hi ?_ hC kk
  simp [am_cl, am_inv, hm, hmay, hlow]
theorem wr_cs1 {j k' : Nat} {v1 : Value} {Q' : Option Value → am_H → Prop} (hi : am_code k pc = some (.invokestatic j)) (hp : pc + 3 = pc') (hm : am_met (am_own k) j = some (0, k', 1)) (hmay : am_may k k' = true) (hlow : am_low st = true) (hC : am_c X d k' [v1] h Q') (kk : ∀ r h', Q' r h' → am_w X d k (pc', ls, r.toList ++ st, h') Q) : am_w X d k (pc, ls, v1 :: st, h) Q := by
  subst hp
  refine am_w.call (k' := k') (as := [v1]) (pc' := pc + 3) (ls' := ls) (st' := st) (h0 := h) hi ?_ hC kk
  simp [am_cl, am_inv, hm, hmay, hlow]
theorem wr_cv2 {j k' : Nat} {a : Nat} {ci : Nat} {fs : List Value} {v1 v2 : Value} {Q' : Option Value → am_H → Prop} (hi : am_code k pc = some (.invokevirtual j)) (hp : pc + 3 = pc') (hm : am_met (am_own k) j = some (1, k', 2)) (hmay : am_may k k' = true) (hc : h[a]? = some (.inr (ci, fs))) (hr : am_rcv k' = ci) (hlow : am_low st = true) (hC : am_c X d k' [.ref a, v1, v2] h Q') (kk : ∀ r h', Q' r h' → am_w X d k (pc', ls, r.toList ++ st, h') Q) : am_w X d k (pc, ls, v2 :: v1 :: .ref a :: st, h) Q := by
  subst hp
  subst hr
  refine am_w.call (k' := k') (as := [.ref a, v1, v2]) (pc' := pc + 3) (ls' := ls) (st' := st) (h0 := h) hi ?_ hC kk
  simp [am_cl, am_inv, hm, hmay, hlow, hc]
theorem wr_ci2 {j k' : Nat} {a : Nat} {v1 v2 : Value} {Q' : Option Value → am_H → Prop} (hi : am_code k pc = some (.invokespecial j)) (hp : pc + 3 = pc') (hm : am_met (am_own k) j = some (2, k', 2)) (hmay : am_may k k' = true) (hlow : am_low st = true) (hC : am_c X d k' [.ref a, v1, v2] h Q') (kk : ∀ r h', Q' r h' → am_w X d k (pc', ls, r.toList ++ st, h') Q) : am_w X d k (pc, ls, v2 :: v1 :: .ref a :: st, h) Q := by
  subst hp
  refine am_w.call (k' := k') (as := [.ref a, v1, v2]) (pc' := pc + 3) (ls' := ls) (st' := st) (h0 := h) hi ?_ hC kk
  simp [am_cl, am_inv, hm, hmay, hlow]
theorem wr_cs2 {j k' : Nat} {v1 v2 : Value} {Q' : Option Value → am_H → Prop} (hi : am_code k pc = some (.invokestatic j)) (hp : pc + 3 = pc') (hm : am_met (am_own k) j = some (0, k', 2)) (hmay : am_may k k' = true) (hlow : am_low st = true) (hC : am_c X d k' [v1, v2] h Q') (kk : ∀ r h', Q' r h' → am_w X d k (pc', ls, r.toList ++ st, h') Q) : am_w X d k (pc, ls, v2 :: v1 :: st, h) Q := by
  subst hp
  refine am_w.call (k' := k') (as := [v1, v2]) (pc' := pc + 3) (ls' := ls) (st' := st) (h0 := h) hi ?_ hC kk
  simp [am_cl, am_inv, hm, hmay, hlow]
theorem wr_cv3 {j k' : Nat} {a : Nat} {ci : Nat} {fs : List Value} {v1 v2 v3 : Value} {Q' : Option Value → am_H → Prop} (hi : am_code k pc = some (.invokevirtual j)) (hp : pc + 3 = pc') (hm : am_met (am_own k) j = some (1, k', 3)) (hmay : am_may k k' = true) (hc : h[a]? = some (.inr (ci, fs))) (hr : am_rcv k' = ci) (hlow : am_low st = true) (hC : am_c X d k' [.ref a, v1, v2, v3] h Q') (kk : ∀ r h', Q' r h' → am_w X d k (pc', ls, r.toList ++ st, h') Q) : am_w X d k (pc, ls, v3 :: v2 :: v1 :: .ref a :: st, h) Q := by
  subst hp
  subst hr
  refine am_w.call (k' := k') (as := [.ref a, v1, v2, v3]) (pc' := pc + 3) (ls' := ls) (st' := st) (h0 := h) hi ?_ hC kk
  simp [am_cl, am_inv, hm, hmay, hlow, hc]
theorem wr_ci3 {j k' : Nat} {a : Nat} {v1 v2 v3 : Value} {Q' : Option Value → am_H → Prop} (hi : am_code k pc = some (.invokespecial j)) (hp : pc + 3 = pc') (hm : am_met (am_own k) j = some (2, k', 3)) (hmay : am_may k k' = true) (hlow : am_low st = true) (hC : am_c X d k' [.ref a, v1, v2, v3] h Q') (kk : ∀ r h', Q' r h' → am_w X d k (pc', ls, r.toList ++ st, h') Q) : am_w X d k (pc, ls, v3 :: v2 :: v1 :: .ref a :: st, h) Q := by
  subst hp
  refine am_w.call (k' := k') (as := [.ref a, v1, v2, v3]) (pc' := pc + 3) (ls' := ls) (st' := st) (h0 := h) hi ?_ hC kk
  simp [am_cl, am_inv, hm, hmay, hlow]
theorem wr_cs3 {j k' : Nat} {v1 v2 v3 : Value} {Q' : Option Value → am_H → Prop} (hi : am_code k pc = some (.invokestatic j)) (hp : pc + 3 = pc') (hm : am_met (am_own k) j = some (0, k', 3)) (hmay : am_may k k' = true) (hlow : am_low st = true) (hC : am_c X d k' [v1, v2, v3] h Q') (kk : ∀ r h', Q' r h' → am_w X d k (pc', ls, r.toList ++ st, h') Q) : am_w X d k (pc, ls, v3 :: v2 :: v1 :: st, h) Q := by
  subst hp
  refine am_w.call (k' := k') (as := [v1, v2, v3]) (pc' := pc + 3) (ls' := ls) (st' := st) (h0 := h) hi ?_ hC kk
  simp [am_cl, am_inv, hm, hmay, hlow]
theorem wr_cv4 {j k' : Nat} {a : Nat} {ci : Nat} {fs : List Value} {v1 v2 v3 v4 : Value} {Q' : Option Value → am_H → Prop} (hi : am_code k pc = some (.invokevirtual j)) (hp : pc + 3 = pc') (hm : am_met (am_own k) j = some (1, k', 4)) (hmay : am_may k k' = true) (hc : h[a]? = some (.inr (ci, fs))) (hr : am_rcv k' = ci) (hlow : am_low st = true) (hC : am_c X d k' [.ref a, v1, v2, v3, v4] h Q') (kk : ∀ r h', Q' r h' → am_w X d k (pc', ls, r.toList ++ st, h') Q) : am_w X d k (pc, ls, v4 :: v3 :: v2 :: v1 :: .ref a :: st, h) Q := by
  subst hp
  subst hr
  refine am_w.call (k' := k') (as := [.ref a, v1, v2, v3, v4]) (pc' := pc + 3) (ls' := ls) (st' := st) (h0 := h) hi ?_ hC kk
  simp [am_cl, am_inv, hm, hmay, hlow, hc]
theorem wr_ci4 {j k' : Nat} {a : Nat} {v1 v2 v3 v4 : Value} {Q' : Option Value → am_H → Prop} (hi : am_code k pc = some (.invokespecial j)) (hp : pc + 3 = pc') (hm : am_met (am_own k) j = some (2, k', 4)) (hmay : am_may k k' = true) (hlow : am_low st = true) (hC : am_c X d k' [.ref a, v1, v2, v3, v4] h Q') (kk : ∀ r h', Q' r h' → am_w X d k (pc', ls, r.toList ++ st, h') Q) : am_w X d k (pc, ls, v4 :: v3 :: v2 :: v1 :: .ref a :: st, h) Q := by
  subst hp
  refine am_w.call (k' := k') (as := [.ref a, v1, v2, v3, v4]) (pc' := pc + 3) (ls' := ls) (st' := st) (h0 := h) hi ?_ hC kk
  simp [am_cl, am_inv, hm, hmay, hlow]
theorem wr_cs4 {j k' : Nat} {v1 v2 v3 v4 : Value} {Q' : Option Value → am_H → Prop} (hi : am_code k pc = some (.invokestatic j)) (hp : pc + 3 = pc') (hm : am_met (am_own k) j = some (0, k', 4)) (hmay : am_may k k' = true) (hlow : am_low st = true) (hC : am_c X d k' [v1, v2, v3, v4] h Q') (kk : ∀ r h', Q' r h' → am_w X d k (pc', ls, r.toList ++ st, h') Q) : am_w X d k (pc, ls, v4 :: v3 :: v2 :: v1 :: st, h) Q := by
  subst hp
  refine am_w.call (k' := k') (as := [v1, v2, v3, v4]) (pc' := pc + 3) (ls' := ls) (st' := st) (h0 := h) hi ?_ hC kk
  simp [am_cl, am_inv, hm, hmay, hlow]
theorem wr_cv5 {j k' : Nat} {a : Nat} {ci : Nat} {fs : List Value} {v1 v2 v3 v4 v5 : Value} {Q' : Option Value → am_H → Prop} (hi : am_code k pc = some (.invokevirtual j)) (hp : pc + 3 = pc') (hm : am_met (am_own k) j = some (1, k', 5)) (hmay : am_may k k' = true) (hc : h[a]? = some (.inr (ci, fs))) (hr : am_rcv k' = ci) (hlow : am_low st = true) (hC : am_c X d k' [.ref a, v1, v2, v3, v4, v5] h Q') (kk : ∀ r h', Q' r h' → am_w X d k (pc', ls, r.toList ++ st, h') Q) : am_w X d k (pc, ls, v5 :: v4 :: v3 :: v2 :: v1 :: .ref a :: st, h) Q := by
  subst hp
  subst hr
  refine am_w.call (k' := k') (as := [.ref a, v1, v2, v3, v4, v5]) (pc' := pc + 3) (ls' := ls) (st' := st) (h0 := h) hi ?_ hC kk
  simp [am_cl, am_inv, hm, hmay, hlow, hc]
theorem wr_ci5 {j k' : Nat} {a : Nat} {v1 v2 v3 v4 v5 : Value} {Q' : Option Value → am_H → Prop} (hi : am_code k pc = some (.invokespecial j)) (hp : pc + 3 = pc') (hm : am_met (am_own k) j = some (2, k', 5)) (hmay : am_may k k' = true) (hlow : am_low st = true) (hC : am_c X d k' [.ref a, v1, v2, v3, v4, v5] h Q') (kk : ∀ r h', Q' r h' → am_w X d k (pc', ls, r.toList ++ st, h') Q) : am_w X d k (pc, ls, v5 :: v4 :: v3 :: v2 :: v1 :: .ref a :: st, h) Q := by
  subst hp
  refine am_w.call (k' := k') (as := [.ref a, v1, v2, v3, v4, v5]) (pc' := pc + 3) (ls' := ls) (st' := st) (h0 := h) hi ?_ hC kk
  simp [am_cl, am_inv, hm, hmay, hlow]
theorem wr_cs5 {j k' : Nat} {v1 v2 v3 v4 v5 : Value} {Q' : Option Value → am_H → Prop} (hi : am_code k pc = some (.invokestatic j)) (hp : pc + 3 = pc') (hm : am_met (am_own k) j = some (0, k', 5)) (hmay : am_may k k' = true) (hlow : am_low st = true) (hC : am_c X d k' [v1, v2, v3, v4, v5] h Q') (kk : ∀ r h', Q' r h' → am_w X d k (pc', ls, r.toList ++ st, h') Q) : am_w X d k (pc, ls, v5 :: v4 :: v3 :: v2 :: v1 :: st, h) Q := by
  subst hp
  refine am_w.call (k' := k') (as := [v1, v2, v3, v4, v5]) (pc' := pc + 3) (ls' := ls) (st' := st) (h0 := h) hi ?_ hC kk
  simp [am_cl, am_inv, hm, hmay, hlow]
theorem wr_oinit {j a x y : Nat} (hi : am_code k pc = some (.invokespecial j)) (hp : pc + 3 = pc') (hm : am_met (am_own k) j = some (3, x, y)) (hlow : (am_low st && Nat.ble 1 (am_fr k) && Nat.ble 20 (am_lc k)) = true) (kk : am_w X d k (pc', ls, st, h) Q) : am_w X d k (pc, ls, .ref a :: st, h) Q := by
  subst hp
  refine am_w.go (σ' := (pc + 3, ls, st, h)) hi ?_ kk
  simp only [am_do, am_dp, hm, am_r1]
  rw [if_pos hlow]
  rfl
theorem wr_mmax {j y : Nat} {a b : Int} (hi : am_code k pc = some (.invokestatic j)) (hp : pc + 3 = pc') (hm : am_met (am_own k) j = some (4, 0, y)) (hlow : (am_low st && Nat.ble 1 (am_fr k) && Nat.ble 21 (am_lc k)) = true) (ha : -2147483648 ≤ a ∧ a ≤ 2147483647) (hb : -2147483648 ≤ b ∧ b ≤ 2147483647) (kk : am_w X d k (pc', ls, .int (iI (max a b)) :: st, h) Q) : am_w X d k (pc, ls, .int (iI b) :: .int (iI a) :: st, h) Q := by
  subst hp
  refine am_w.go (σ' := (pc + 3, ls, .int (if iI a < iI b then iI b else iI a) :: st, h)) hi ?_ ?_
  · simp only [am_do, am_dp, hm, am_math, am_i2]
    rw [if_pos hlow]
    rfl
  · rw [iI_max ha hb]
    exact kk
theorem wr_mmin {j y : Nat} {a b : Int} (hi : am_code k pc = some (.invokestatic j)) (hp : pc + 3 = pc') (hm : am_met (am_own k) j = some (4, 1, y)) (hlow : (am_low st && Nat.ble 1 (am_fr k) && Nat.ble 21 (am_lc k)) = true) (ha : -2147483648 ≤ a ∧ a ≤ 2147483647) (hb : -2147483648 ≤ b ∧ b ≤ 2147483647) (kk : am_w X d k (pc', ls, .int (iI (min a b)) :: st, h) Q) : am_w X d k (pc, ls, .int (iI b) :: .int (iI a) :: st, h) Q := by
  subst hp
  refine am_w.go (σ' := (pc + 3, ls, .int (if iI b < iI a then iI b else iI a) :: st, h)) hi ?_ ?_
  · simp only [am_do, am_dp, hm, am_math, am_i2]
    rw [if_pos hlow]
    rfl
  · rw [iI_min ha hb]
    exact kk
theorem wr_mabs {j y : Nat} {a b : Int} (hi : am_code k pc = some (.invokestatic j)) (hp : pc + 3 = pc') (hm : am_met (am_own k) j = some (4, 5, y)) (hlow : (am_low st && Nat.ble 1 (am_fr k) && Nat.ble 21 (am_lc k)) = true) (ha : -9223372036854775807 ≤ a ∧ a ≤ 9223372036854775807) (kk : am_w X d k (pc', ls, .long (lI (a.natAbs)) :: st, h) Q) : am_w X d k (pc, ls, .long (lI a) :: st, h) Q := by
  subst hp
  refine am_w.go (σ' := (pc + 3, ls, .long (if 0 < lI a then lI a else -lI a) :: st, h)) hi ?_ ?_
  · simp only [am_do, am_dp, hm, am_math, am_l1]
    rw [if_pos hlow]
    rfl
  · rw [lI_abs ha]
    exact kk
theorem wr_new {j ci : Nat} (hi : am_code k pc = some (.new j)) (hp : pc + 3 = pc') (hn : am_newc (am_own k) j = some ci) (kk : am_w X d k (pc', ls, .ref h.length :: st, h ++ [.inr (ci, am_dfl ci)]) Q) : am_w X d k (pc, ls, st, h) Q := by
  subst hp
  exact am_w.go hi (by simp only [am_do, am_dp, hn]; rfl) kk
theorem wr_newi {n : Nat} (hi : am_code k pc = some (.newarray .int)) (hp : pc + 2 = pc') (hn : n ≤ 1000000) (kk : am_w X d k (pc', ls, .ref h.length :: st, h ++ [am_ia n fun _ => 0]) Q) : am_w X d k (pc, ls, .int (iI n) :: st, h) Q := by
  subst hp
  have h1 : (iI (n : Int)).toNatClampNeg = n := by rw [iI_clamp (by omega)]; simp
  have h2 : (decide (iI (n : Int) < 0) || decide (1000000 < (iI (n : Int)).toNatClampNeg)) = false := by
    rw [Bool.or_eq_false_iff, h1]
    exact ⟨decide_eq_false (by rw [← iI_0, iI_lt (by omega) (by omega)]; omega), decide_eq_false (by omega)⟩
  refine am_w.go (σ' := (pc + 2, ls, .ref h.length :: st, h ++ [am_ia n fun _ => 0])) hi ?_ kk
  rw [h1] at h2
  simp only [am_do, am_dp, am_newa, h1, h2]
  rfl
theorem wr_newl {n : Nat} (hi : am_code k pc = some (.newarray .long)) (hp : pc + 2 = pc') (hn : n ≤ 1000000) (kk : am_w X d k (pc', ls, .ref h.length :: st, h ++ [am_la n fun _ => 0]) Q) : am_w X d k (pc, ls, .int (iI n) :: st, h) Q := by
  subst hp
  have h1 : (iI (n : Int)).toNatClampNeg = n := by rw [iI_clamp (by omega)]; simp
  have h2 : (decide (iI (n : Int) < 0) || decide (1000000 < (iI (n : Int)).toNatClampNeg)) = false := by
    rw [Bool.or_eq_false_iff, h1]
    exact ⟨decide_eq_false (by rw [← iI_0, iI_lt (by omega) (by omega)]; omega), decide_eq_false (by omega)⟩
  refine am_w.go (σ' := (pc + 2, ls, .ref h.length :: st, h ++ [am_la n fun _ => 0])) hi ?_ kk
  rw [h1] at h2
  simp only [am_do, am_dp, am_newa, h1, h2]
  rfl
theorem wr_newz {n : Nat} (hi : am_code k pc = some (.newarray .boolean)) (hp : pc + 2 = pc') (hn : n ≤ 1000000) (kk : am_w X d k (pc', ls, .ref h.length :: st, h ++ [am_za n fun _ => 0]) Q) : am_w X d k (pc, ls, .int (iI n) :: st, h) Q := by
  subst hp
  have h1 : (iI (n : Int)).toNatClampNeg = n := by rw [iI_clamp (by omega)]; simp
  have h2 : (decide (iI (n : Int) < 0) || decide (1000000 < (iI (n : Int)).toNatClampNeg)) = false := by
    rw [Bool.or_eq_false_iff, h1]
    exact ⟨decide_eq_false (by rw [← iI_0, iI_lt (by omega) (by omega)]; omega), decide_eq_false (by omega)⟩
  refine am_w.go (σ' := (pc + 2, ls, .ref h.length :: st, h ++ [am_za n fun _ => 0])) hi ?_ kk
  rw [h1] at h2
  simp only [am_do, am_dp, am_newa, h1, h2]
  rfl
end AMRW
