/-! THE 208, WHOLE -/
section RUE
variable {X : Nat × (Nat → Int32)}
set_option maxRecDepth 8000 in
theorem lw_loop {d : Nat} (hX : X.1 ≤ 2048) : ∀ (m i : Nat) (z : PS) (h : am_H), X.1 ≤ i + m → i ≤ 2052 → VX z → CR h z → RR h z → h.length = 182 → am_w X (d + 11) 208 (18, [am_X, .ref 0, .ref 164, .int (iI i)], [], h) (fun r h' => r = some (.int (iI 1)) ∧ h'.length = 182 ∧ am_sz h' ≤ 7302250) := by
  intro m
  induction m with
  | zero =>
    intro i z h hm hi V C R l
    refine wr_iload_n rfl rfl rfl ?_
    refine wr_aload_nX rfl rfl rfl ?_
    refine wr_alenX rfl rfl ?_
    refine wr_iconst rfl rfl ?_
    refine wr_isub rfl rfl ?_
    refine wr_icmp_gt rfl rfl rfl (by omega) (by omega) (fun c23 => ?_) (fun c23 => by exfalso; omega)
    refine wr_iconst rfl rfl ?_
    refine wr_zret rfl rfl (by decide) ?_
    exact ⟨rfl, l, room C R l⟩
  | succ m ih =>
    intro i z h hm hi V C R l
    by_cases e : X.1 < i + 4
    ·
      refine wr_iload_n rfl rfl rfl ?_
      refine wr_aload_nX rfl rfl rfl ?_
      refine wr_alenX rfl rfl ?_
      refine wr_iconst rfl rfl ?_
      refine wr_isub rfl rfl ?_
      refine wr_icmp_gt rfl rfl rfl (by omega) (by omega) (fun c23 => ?_) (fun c23 => by exfalso; omega)
      refine wr_iconst rfl rfl ?_
      refine wr_zret rfl rfl (by decide) ?_
      exact ⟨rfl, l, room C R l⟩
    · have hi4 : i + 4 ≤ X.1 := by omega
      have N : ∀ (z' : PS) (h' : am_H), VX z' → CR h' z' → RR h' z' → h'.length = 182 → am_w X (d + 11) 208 (601, [am_X, .ref 0, .ref 164, .int (iI i)], [], h') (fun r h' => r = some (.int (iI 1)) ∧ h'.length = 182 ∧ am_sz h' ≤ 7302250) := by
        intro z' h' V' C' R' l'
        refine wr_iinc (ls' := [_, _, _, _]) rfl rfl rfl rfl ?_
        refine wr_goto rfl rfl ?_
        exact ih (i + 4) z' h' (by omega) (by omega) V' C' R' l'
      refine wr_iload_n rfl rfl rfl ?_
      refine wr_aload_nX rfl rfl rfl ?_
      refine wr_alenX rfl rfl ?_
      refine wr_iconst rfl rfl ?_
      refine wr_isub rfl rfl ?_
      refine wr_icmp_gt rfl rfl rfl (by omega) (by omega) (fun c23 => by exfalso; omega) (fun c23 => ?_)
      refine wr_aload_nX rfl rfl rfl ?_
      refine wr_iload_n rfl rfl rfl ?_
      refine wr_ialZ rfl rfl (by omega) (by omega) ?_
      refine wr_bipush rfl rfl (by decide) ?_
      refine wr_iand rfl rfl ?_
      refine sw_208_32 (i32_rg _) (fun _ => lw_0 hi4 hX V C R l N) (fun _ => lw_1 hi4 hX V C R l N) (fun _ => lw_2 hi4 hX V C R l N) (fun _ => lw_3 hi4 hX V C R l N) (fun _ => lw_4 hi4 hX V C R l N) (fun _ => lw_5 hi4 hX V C R l N) (fun _ => lw_6 hi4 hX V C R l N) (fun _ => lw_7 hi4 hX V C R l N) (fun _ => lw_8 hi4 hX V C R l N) (fun _ => lw_9 hi4 hX V C R l N) (fun _ => lw_10 hi4 hX V C R l N) (fun _ => lw_11 hi4 hX V C R l N) (fun _ => lw_12 hi4 hX V C R l N) (fun _ => lw_13 hi4 hX V C R l N) (fun _ => lw_14 hi4 hX V C R l N) (fun _ => lw_15 hi4 hX V C R l N) (fun _ => lw_16 hi4 hX V C R l N) (fun _ _ _ _ _ _ _ _ _ _ _ _ _ _ _ _ _ => N z h V C R l)
theorem lw_all (hX : X.1 ≤ 2048) : am_c X 12 208 [am_X] [] (fun r h' => r = some (.int (iI 1)) ∧ h'.length = 182 ∧ am_sz h' ≤ 7302250) := by
  refine am_c.of (Nat.le_of_ble_eq_true rfl) ?_
  show am_w _ _ _ (_, [_, _, _, _], _, _) _
  refine wr_new rfl rfl rfl ?_
  rw [show ([] : am_H).length = 0 from rfl]
  refine wr_dup rfl rfl ?_
  refine wr_ci0 (k' := 0) rfl rfl rfl rfl rfl (cr_init (d := 5)) (fun r h1 q => ?_)
  obtain ⟨rfl, l1, C⟩ := q
  dsimp only [Option.toList, List.nil_append]
  refine wr_astore_n (ls' := [_, _, _, _]) rfl rfl (Nat.le_of_ble_eq_true rfl) rfl ?_
  refine wr_new rfl rfl rfl ?_
  rw [l1]
  refine wr_dup rfl rfl ?_
  refine wr_ci0 (k' := 139) rfl rfl rfl rfl rfl (rr_init (d := 7) (ap_la l1) (ap_len l1)) (fun r h2 q => ?_)
  obtain ⟨rfl, l2, e2, R⟩ := q
  dsimp only [Option.toList, List.nil_append]
  have C2 : CR h2 ps0 := C.same (fun i _ b => (e2 i (by omega)).trans (ap_lt (by omega)))
  refine wr_astore_n (ls' := [_, _, _, _]) rfl rfl (Nat.le_of_ble_eq_true rfl) rfl ?_
  refine wr_iconst rfl rfl ?_
  refine wr_istore_n (ls' := [_, _, _, _]) rfl rfl (Nat.le_of_ble_eq_true rfl) rfl ?_
  exact lw_loop (d := 0) hX X.1 0 ps0 h2 (by omega) (by omega) vx0 C2 R l2
end RUE
