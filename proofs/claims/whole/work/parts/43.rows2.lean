/-! SWITCHES, BOOLEAN STORES -/
section AMSW
variable {X : Nat × (Nat → Int32)} {d k pc pc' : Nat} {ls st : List Value} {h : am_H} {Q : Option Value → am_H → Prop}
theorem wr_tsw {dd lo up : Int} {offs : Array Int} {a o : Int} (hi : am_code k pc = some (.tableswitch dd lo up offs)) (ha : -2147483648 ≤ a ∧ a ≤ 2147483647) (hs : (if a < lo ∨ up < a then some dd else offs[(a - lo).toNat]?) = some o) (hj : am_jmp pc o = some pc') (kk : am_w X d k (pc', ls, st, h) Q) : am_w X d k (pc, ls, .int (iI a) :: st, h) Q := by
  refine am_w.go (σ' := (pc', ls, st, h)) hi ?_ kk
  simp only [am_do, am_dp, am_i1, iI_toInt ha]
  by_cases c : a < lo ∨ up < a
  · rw [if_pos c] at hs ⊢
    cases hs
    simp only [am_go, hj]
    rfl
  · rw [if_neg c] at hs ⊢
    rw [hs]
    simp only [am_go, hj]
    rfl
theorem wr_lsw {dd : Int} {ps : Array (Int × Int)} {a o : Int} (hi : am_code k pc = some (.lookupswitch dd ps)) (ha : -2147483648 ≤ a ∧ a ≤ 2147483647) (hso : (ps.toList.zip (ps.toList.drop 1)).all (fun (a, next) => a.1 < next.1) = true) (hs : Op.lookupswitch.offset ps.toList dd a = o) (hj : am_jmp pc o = some pc') (kk : am_w X d k (pc', ls, st, h) Q) : am_w X d k (pc, ls, .int (iI a) :: st, h) Q := by
  refine am_w.go (σ' := (pc', ls, st, h)) hi ?_ kk
  simp only [am_do, am_dp, am_i1, iI_toInt ha]
  rw [if_pos hso, hs]
  simp only [am_go, hj]
  rfl
theorem wr_zast {a n : Nat} {g : Nat → Int} {j x : Int} (hi : am_code k pc = some .bastore) (hp : pc + 1 = pc') (hc : h[a]? = some (am_za n g)) (hj : 0 ≤ j ∧ j < n) (hn : (n : Int) ≤ 2147483648) (hx : iI x &&& 1 = iI x) (kk : ∀ h1 : am_H, h1 = h.set a (am_za n (updI g j.toNat x)) → am_w X d k (pc', ls, st, h1) Q) : am_w X d k (pc, ls, .int (iI x) :: .int (iI j) :: .ref a :: st, h) Q := by
  subst hp
  refine am_w.go (σ' := (pc + 1, ls, st, h.set a (.inl (2, n, .inl (upd (fun j => iI (g j)) (iI j).toNatClampNeg (iI x)))))) hi (by simp only [am_do, am_dp, am_zast, hc, am_out_I hj hn, hx, decide_true, Bool.not_true, Bool.or_false]; rfl) ?_
  rw [upd_iI, iI_clamp (by omega)]
  exact kk _ rfl
end AMSW
theorem sw_36_1 {X : Nat × (Nat → Int32)} {d : Nat} {ls st : List Value} {h : am_H} {Q : Option Value → am_H → Prop} {a : Int} (ha : -2147483648 ≤ a ∧ a ≤ 2147483647) (k0 : a = 63 → am_w X d 36 (70, ls, st, h) Q) (k1 : a = 66 → am_w X d 36 (62, ls, st, h) Q) (k2 : a = 74 → am_w X d 36 (64, ls, st, h) Q) (k3 : a = 76 → am_w X d 36 (60, ls, st, h) Q) (k4 : a = 83 → am_w X d 36 (66, ls, st, h) Q) (k5 : a = 87 → am_w X d 36 (68, ls, st, h) Q) (kd : ¬ a = 63 → ¬ a = 66 → ¬ a = 74 → ¬ a = 76 → ¬ a = 83 → ¬ a = 87 → am_w X d 36 (73, ls, st, h) Q) : am_w X d 36 (1, ls, .int (iI a) :: st, h) Q := by
  by_cases c0 : a = 63
  · exact wr_lsw (o := 69) rfl ha rfl (by rw [c0]; rfl) rfl (k0 c0)
  by_cases c1 : a = 66
  · exact wr_lsw (o := 61) rfl ha rfl (by rw [c1]; rfl) rfl (k1 c1)
  by_cases c2 : a = 74
  · exact wr_lsw (o := 63) rfl ha rfl (by rw [c2]; rfl) rfl (k2 c2)
  by_cases c3 : a = 76
  · exact wr_lsw (o := 59) rfl ha rfl (by rw [c3]; rfl) rfl (k3 c3)
  by_cases c4 : a = 83
  · exact wr_lsw (o := 65) rfl ha rfl (by rw [c4]; rfl) rfl (k4 c4)
  by_cases c5 : a = 87
  · exact wr_lsw (o := 67) rfl ha rfl (by rw [c5]; rfl) rfl (k5 c5)
  refine wr_lsw (o := 72) rfl ha rfl ?_ rfl (kd c0 c1 c2 c3 c4 c5)
  show (if (63 : Int) = a then (69 : Int) else if (66 : Int) = a then (61 : Int) else if (74 : Int) = a then (63 : Int) else if (76 : Int) = a then (59 : Int) else if (83 : Int) = a then (65 : Int) else if (87 : Int) = a then (67 : Int) else 72) = 72
  rw [if_neg (fun q => c0 q.symm), if_neg (fun q => c1 q.symm), if_neg (fun q => c2 q.symm), if_neg (fun q => c3 q.symm), if_neg (fun q => c4 q.symm), if_neg (fun q => c5 q.symm)]
theorem sw_39_1 {X : Nat × (Nat → Int32)} {d : Nat} {ls st : List Value} {h : am_H} {Q : Option Value → am_H → Prop} {a : Int} (ha : -2147483648 ≤ a ∧ a ≤ 2147483647) (k0 : a = 99 → am_w X d 39 (44, ls, st, h) Q) (k1 : a = 102 → am_w X d 39 (47, ls, st, h) Q) (k2 : a = 104 → am_w X d 39 (53, ls, st, h) Q) (k3 : a = 111 → am_w X d 39 (50, ls, st, h) Q) (kd : ¬ a = 99 → ¬ a = 102 → ¬ a = 104 → ¬ a = 111 → am_w X d 39 (56, ls, st, h) Q) : am_w X d 39 (1, ls, .int (iI a) :: st, h) Q := by
  by_cases c0 : a = 99
  · exact wr_lsw (o := 43) rfl ha rfl (by rw [c0]; rfl) rfl (k0 c0)
  by_cases c1 : a = 102
  · exact wr_lsw (o := 46) rfl ha rfl (by rw [c1]; rfl) rfl (k1 c1)
  by_cases c2 : a = 104
  · exact wr_lsw (o := 52) rfl ha rfl (by rw [c2]; rfl) rfl (k2 c2)
  by_cases c3 : a = 111
  · exact wr_lsw (o := 49) rfl ha rfl (by rw [c3]; rfl) rfl (k3 c3)
  refine wr_lsw (o := 55) rfl ha rfl ?_ rfl (kd c0 c1 c2 c3)
  show (if (99 : Int) = a then (43 : Int) else if (102 : Int) = a then (46 : Int) else if (104 : Int) = a then (52 : Int) else if (111 : Int) = a then (49 : Int) else 55) = 55
  rw [if_neg (fun q => c0 q.symm), if_neg (fun q => c1 q.symm), if_neg (fun q => c2 q.symm), if_neg (fun q => c3 q.symm)]
theorem sw_65_7 {X : Nat × (Nat → Int32)} {d : Nat} {ls st : List Value} {h : am_H} {Q : Option Value → am_H → Prop} {a : Int} (ha : -2147483648 ≤ a ∧ a ≤ 2147483647) (k0 : a = 6 → am_w X d 65 (32, ls, st, h) Q) (k1 : a = 7 → am_w X d 65 (45, ls, st, h) Q) (k2 : a = 8 → am_w X d 65 (58, ls, st, h) Q) (kd : ¬ a = 6 → ¬ a = 7 → ¬ a = 8 → am_w X d 65 (71, ls, st, h) Q) : am_w X d 65 (7, ls, .int (iI a) :: st, h) Q := by
  by_cases c0 : a = 6
  · exact wr_tsw (o := 25) rfl ha (by rw [c0]; rfl) rfl (k0 c0)
  by_cases c1 : a = 7
  · exact wr_tsw (o := 38) rfl ha (by rw [c1]; rfl) rfl (k1 c1)
  by_cases c2 : a = 8
  · exact wr_tsw (o := 51) rfl ha (by rw [c2]; rfl) rfl (k2 c2)
  exact wr_tsw (o := 64) rfl ha (by rw [if_pos (by omega)]) rfl (kd c0 c1 c2)
theorem sw_138_1 {X : Nat × (Nat → Int32)} {d : Nat} {ls st : List Value} {h : am_H} {Q : Option Value → am_H → Prop} {a : Int} (ha : -2147483648 ≤ a ∧ a ≤ 2147483647) (k0 : a = 0 → am_w X d 138 (40, ls, st, h) Q) (k1 : a = 1 → am_w X d 138 (48, ls, st, h) Q) (k2 : a = 2 → am_w X d 138 (56, ls, st, h) Q) (k3 : a = 3 → am_w X d 138 (64, ls, st, h) Q) (k4 : a = 4 → am_w X d 138 (69, ls, st, h) Q) (k5 : a = 5 → am_w X d 138 (77, ls, st, h) Q) (kd : ¬ a = 0 → ¬ a = 1 → ¬ a = 2 → ¬ a = 3 → ¬ a = 4 → ¬ a = 5 → am_w X d 138 (85, ls, st, h) Q) : am_w X d 138 (1, ls, .int (iI a) :: st, h) Q := by
  by_cases c0 : a = 0
  · exact wr_tsw (o := 39) rfl ha (by rw [c0]; rfl) rfl (k0 c0)
  by_cases c1 : a = 1
  · exact wr_tsw (o := 47) rfl ha (by rw [c1]; rfl) rfl (k1 c1)
  by_cases c2 : a = 2
  · exact wr_tsw (o := 55) rfl ha (by rw [c2]; rfl) rfl (k2 c2)
  by_cases c3 : a = 3
  · exact wr_tsw (o := 63) rfl ha (by rw [c3]; rfl) rfl (k3 c3)
  by_cases c4 : a = 4
  · exact wr_tsw (o := 68) rfl ha (by rw [c4]; rfl) rfl (k4 c4)
  by_cases c5 : a = 5
  · exact wr_tsw (o := 76) rfl ha (by rw [c5]; rfl) rfl (k5 c5)
  exact wr_tsw (o := 84) rfl ha (by rw [if_pos (by omega)]) rfl (kd c0 c1 c2 c3 c4 c5)
theorem sw_170_70 {X : Nat × (Nat → Int32)} {d : Nat} {ls st : List Value} {h : am_H} {Q : Option Value → am_H → Prop} {a : Int} (ha : -2147483648 ≤ a ∧ a ≤ 2147483647) (k0 : a = 1 → am_w X d 170 (108, ls, st, h) Q) (k1 : a = 2 → am_w X d 170 (156, ls, st, h) Q) (k2 : a = 3 → am_w X d 170 (208, ls, st, h) Q) (k3 : a = 4 → am_w X d 170 (252, ls, st, h) Q) (k4 : a = 5 → am_w X d 170 (271, ls, st, h) Q) (k5 : a = 6 → am_w X d 170 (278, ls, st, h) Q) (kd : ¬ a = 1 → ¬ a = 2 → ¬ a = 3 → ¬ a = 4 → ¬ a = 5 → ¬ a = 6 → am_w X d 170 (379, ls, st, h) Q) : am_w X d 170 (70, ls, .int (iI a) :: st, h) Q := by
  by_cases c0 : a = 1
  · exact wr_tsw (o := 38) rfl ha (by rw [c0]; rfl) rfl (k0 c0)
  by_cases c1 : a = 2
  · exact wr_tsw (o := 86) rfl ha (by rw [c1]; rfl) rfl (k1 c1)
  by_cases c2 : a = 3
  · exact wr_tsw (o := 138) rfl ha (by rw [c2]; rfl) rfl (k2 c2)
  by_cases c3 : a = 4
  · exact wr_tsw (o := 182) rfl ha (by rw [c3]; rfl) rfl (k3 c3)
  by_cases c4 : a = 5
  · exact wr_tsw (o := 201) rfl ha (by rw [c4]; rfl) rfl (k4 c4)
  by_cases c5 : a = 6
  · exact wr_tsw (o := 208) rfl ha (by rw [c5]; rfl) rfl (k5 c5)
  exact wr_tsw (o := 309) rfl ha (by rw [if_pos (by omega)]) rfl (kd c0 c1 c2 c3 c4 c5)
theorem sw_207_1 {X : Nat × (Nat → Int32)} {d : Nat} {ls st : List Value} {h : am_H} {Q : Option Value → am_H → Prop} {a : Int} (ha : -2147483648 ≤ a ∧ a ≤ 2147483647) (k0 : a = 0 → am_w X d 207 (40, ls, st, h) Q) (k1 : a = 1 → am_w X d 207 (45, ls, st, h) Q) (k2 : a = 2 → am_w X d 207 (50, ls, st, h) Q) (k3 : a = 3 → am_w X d 207 (55, ls, st, h) Q) (k4 : a = 4 → am_w X d 207 (60, ls, st, h) Q) (k5 : a = 5 → am_w X d 207 (65, ls, st, h) Q) (kd : ¬ a = 0 → ¬ a = 1 → ¬ a = 2 → ¬ a = 3 → ¬ a = 4 → ¬ a = 5 → am_w X d 207 (81, ls, st, h) Q) : am_w X d 207 (1, ls, .int (iI a) :: st, h) Q := by
  by_cases c0 : a = 0
  · exact wr_tsw (o := 39) rfl ha (by rw [c0]; rfl) rfl (k0 c0)
  by_cases c1 : a = 1
  · exact wr_tsw (o := 44) rfl ha (by rw [c1]; rfl) rfl (k1 c1)
  by_cases c2 : a = 2
  · exact wr_tsw (o := 49) rfl ha (by rw [c2]; rfl) rfl (k2 c2)
  by_cases c3 : a = 3
  · exact wr_tsw (o := 54) rfl ha (by rw [c3]; rfl) rfl (k3 c3)
  by_cases c4 : a = 4
  · exact wr_tsw (o := 59) rfl ha (by rw [c4]; rfl) rfl (k4 c4)
  by_cases c5 : a = 5
  · exact wr_tsw (o := 64) rfl ha (by rw [c5]; rfl) rfl (k5 c5)
  exact wr_tsw (o := 80) rfl ha (by rw [if_pos (by omega)]) rfl (kd c0 c1 c2 c3 c4 c5)
theorem sw_208_32 {X : Nat × (Nat → Int32)} {d : Nat} {ls st : List Value} {h : am_H} {Q : Option Value → am_H → Prop} {a : Int} (ha : -2147483648 ≤ a ∧ a ≤ 2147483647) (k0 : a = 0 → am_w X d 208 (116, ls, st, h) Q) (k1 : a = 1 → am_w X d 208 (139, ls, st, h) Q) (k2 : a = 2 → am_w X d 208 (152, ls, st, h) Q) (k3 : a = 3 → am_w X d 208 (185, ls, st, h) Q) (k4 : a = 4 → am_w X d 208 (196, ls, st, h) Q) (k5 : a = 5 → am_w X d 208 (229, ls, st, h) Q) (k6 : a = 6 → am_w X d 208 (262, ls, st, h) Q) (k7 : a = 7 → am_w X d 208 (285, ls, st, h) Q) (k8 : a = 8 → am_w X d 208 (329, ls, st, h) Q) (k9 : a = 9 → am_w X d 208 (352, ls, st, h) Q) (k10 : a = 10 → am_w X d 208 (375, ls, st, h) Q) (k11 : a = 11 → am_w X d 208 (398, ls, st, h) Q) (k12 : a = 12 → am_w X d 208 (421, ls, st, h) Q) (k13 : a = 13 → am_w X d 208 (471, ls, st, h) Q) (k14 : a = 14 → am_w X d 208 (505, ls, st, h) Q) (k15 : a = 15 → am_w X d 208 (528, ls, st, h) Q) (k16 : a = 16 → am_w X d 208 (578, ls, st, h) Q) (kd : ¬ a = 0 → ¬ a = 1 → ¬ a = 2 → ¬ a = 3 → ¬ a = 4 → ¬ a = 5 → ¬ a = 6 → ¬ a = 7 → ¬ a = 8 → ¬ a = 9 → ¬ a = 10 → ¬ a = 11 → ¬ a = 12 → ¬ a = 13 → ¬ a = 14 → ¬ a = 15 → ¬ a = 16 → am_w X d 208 (601, ls, st, h) Q) : am_w X d 208 (32, ls, .int (iI a) :: st, h) Q := by
  by_cases c0 : a = 0
  · exact wr_tsw (o := 84) rfl ha (by rw [c0]; rfl) rfl (k0 c0)
  by_cases c1 : a = 1
  · exact wr_tsw (o := 107) rfl ha (by rw [c1]; rfl) rfl (k1 c1)
  by_cases c2 : a = 2
  · exact wr_tsw (o := 120) rfl ha (by rw [c2]; rfl) rfl (k2 c2)
  by_cases c3 : a = 3
  · exact wr_tsw (o := 153) rfl ha (by rw [c3]; rfl) rfl (k3 c3)
  by_cases c4 : a = 4
  · exact wr_tsw (o := 164) rfl ha (by rw [c4]; rfl) rfl (k4 c4)
  by_cases c5 : a = 5
  · exact wr_tsw (o := 197) rfl ha (by rw [c5]; rfl) rfl (k5 c5)
  by_cases c6 : a = 6
  · exact wr_tsw (o := 230) rfl ha (by rw [c6]; rfl) rfl (k6 c6)
  by_cases c7 : a = 7
  · exact wr_tsw (o := 253) rfl ha (by rw [c7]; rfl) rfl (k7 c7)
  by_cases c8 : a = 8
  · exact wr_tsw (o := 297) rfl ha (by rw [c8]; rfl) rfl (k8 c8)
  by_cases c9 : a = 9
  · exact wr_tsw (o := 320) rfl ha (by rw [c9]; rfl) rfl (k9 c9)
  by_cases c10 : a = 10
  · exact wr_tsw (o := 343) rfl ha (by rw [c10]; rfl) rfl (k10 c10)
  by_cases c11 : a = 11
  · exact wr_tsw (o := 366) rfl ha (by rw [c11]; rfl) rfl (k11 c11)
  by_cases c12 : a = 12
  · exact wr_tsw (o := 389) rfl ha (by rw [c12]; rfl) rfl (k12 c12)
  by_cases c13 : a = 13
  · exact wr_tsw (o := 439) rfl ha (by rw [c13]; rfl) rfl (k13 c13)
  by_cases c14 : a = 14
  · exact wr_tsw (o := 473) rfl ha (by rw [c14]; rfl) rfl (k14 c14)
  by_cases c15 : a = 15
  · exact wr_tsw (o := 496) rfl ha (by rw [c15]; rfl) rfl (k15 c15)
  by_cases c16 : a = 16
  · exact wr_tsw (o := 546) rfl ha (by rw [c16]; rfl) rfl (k16 c16)
  exact wr_tsw (o := 569) rfl ha (by rw [if_pos (by omega)]) rfl (kd c0 c1 c2 c3 c4 c5 c6 c7 c8 c9 c10 c11 c12 c13 c14 c15 c16)
