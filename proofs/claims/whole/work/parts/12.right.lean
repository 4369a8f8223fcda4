/-! THE TABLES ARE RIGHT: each row stands among the Statement's words; printed by wip/whole/tools/gen_tables.py -/
def am_layL : List (List Nat) := [[485, 487, 489, 491, 493, 495, 497, 499, 501, 503, 505, 507, 509, 511, 513, 515, 517, 519], [118, 120, 122, 124, 126, 128, 130, 132], [151, 153, 155, 157, 159, 161, 163], [176, 178, 180], [220, 222, 224, 226, 228, 230, 232, 234, 236, 238, 240], [203, 205], [344, 346, 348, 350, 352], [311, 313, 315, 317, 319, 321, 323, 325, 327, 329], [280, 282, 284], [370, 372, 374, 376, 378, 380, 382], [409, 411, 413, 415, 417, 419, 421, 423, 425, 427, 429, 431, 433, 435], [454, 456, 458, 460, 462], [1164, 1166, 1168, 1170, 1172, 1174, 1176, 1178, 1180, 1182, 1184, 1186, 1188, 1190, 1192, 1194, 1196, 1198, 1200, 1202, 1204, 1206, 1208, 1210, 1212, 1214, 1216, 1218, 1220, 1222, 1224, 1226, 1228, 1230, 1232, 1234, 1236, 1238, 1240]]
def am_mpL : List (Nat × Nat) := [(79, 98), (80, 106), (81, 140), (82, 170), (83, 188), (84, 194), (85, 198), (86, 247), (87, 253), (88, 259), (84, 266), (89, 359), (90, 389), (91, 442), (79, 525), (81, 529), (79, 533), (81, 537), (80, 541), (81, 545), (80, 549), (81, 553), (81, 557), (81, 561), (80, 565), (81, 569), (80, 573), (80, 577), (85, 580), (80, 585), (81, 589), (80, 593), (80, 597), (81, 601), (80, 605), (81, 609), (81, 612), (80, 616), (81, 620), (81, 623), (81, 627), (81, 630), (80, 636), (81, 641), (81, 645), (86, 649), (79, 653), (82, 657), (79, 662), (79, 666), (82, 670), (79, 674), (79, 681), (79, 684), (79, 688), (82, 692), (86, 697), (87, 701), (90, 705), (89, 709), (80, 713), (80, 717), (80, 722), (80, 726), (80, 730), (89, 734), (89, 738), (87, 742), (87, 746), (82, 753), (82, 757), (87, 761), (82, 765), (85, 768), (89, 772), (89, 776), (86, 780), (89, 784), (93, 787), (83, 791), (83, 795), (89, 802), (82, 806), (82, 810), (82, 814), (83, 818), (83, 822), (84, 826), (84, 830), (83, 834), (84, 838), (84, 842), (84, 846), (84, 850), (84, 854), (84, 859), (84, 863), (84, 867), (84, 871), (84, 875), (84, 879), (83, 883), (87, 887), (89, 891), (89, 895), (86, 899), (79, 903), (79, 906), (86, 912), (86, 916), (87, 920), (79, 923), (79, 931), (87, 935), (79, 939), (86, 943), (79, 947), (87, 951), (83, 956), (79, 962), (86, 966), (79, 970), (90, 974), (90, 979), (90, 984), (90, 989), (90, 993), (87, 999), (87, 1004), (87, 1009), (87, 1013), (90, 1024), (90, 1028), (90, 1032), (79, 1036), (79, 1043), (91, 1047), (79, 1058), (79, 1062), (92, 1067), (92, 1074), (92, 1077), (92, 1081), (92, 1086), (92, 1090), (92, 1094), (92, 1098), (92, 1102), (92, 1107), (92, 1111), (92, 1115), (92, 1119), (92, 1124), (92, 1247), (92, 1251), (92, 1255), (92, 1259), (92, 1263), (92, 1267), (92, 1271), (92, 1278), (92, 1282), (92, 1286), (92, 1290), (92, 1294), (92, 1299), (92, 1303), (92, 1307), (92, 1311), (92, 1315), (92, 1319), (92, 1324), (92, 1328), (92, 1332), (92, 1336), (92, 1340), (92, 1344), (92, 1348), (92, 1352), (92, 1356), (92, 1360), (92, 1364), (92, 1368), (92, 1372), (92, 1376), (92, 1380), (92, 1384), (92, 1388), (92, 1392), (92, 1396), (92, 1400), (92, 1404), (92, 1408), (92, 1413), (92, 1417), (92, 1420), (92, 1425), (92, 1429), (92, 1433), (92, 1437), (92, 1441), (92, 1445), (92, 1449), (92, 1453), (92, 1457), (92, 1461), (92, 1465), (92, 1470), (78, 0)]
def am_WT : List Cond := lw_tbl.filter goodWord
theorem am_WT_good : ∀ w ∈ am_WT, (w.onTables && w.keeps) = true ∨ ∃ ty, w = .arrayClass ty := fun w h => good_of_word (List.mem_filter.mp h).2
def am_at (p : Nat) (w : Cond) : Bool := decide (lw_tbl[p]? = some w) && goodWord w
theorem am_at_in {p : Nat} {w : Cond} (h : am_at p w = true) : w ∈ am_WT := by
  unfold am_at at h
  rw [Bool.and_eq_true] at h
  exact List.mem_filter.mpr ⟨List.mem_of_getElem? (of_decide_eq_true h.1), h.2⟩
theorem am_fnd_mem {α : Type} : ∀ {l : List ((Nat × Nat) × α)} {o j : Nat} {v : α}, am_fnd l o j = some v → ((o, j), v) ∈ l
  | [], _, _, _, h => by cases h
  | q :: r, o, j, v, h => by
    unfold am_fnd at h
    split at h
    · rename_i hb
      rw [Bool.and_eq_true] at hb
      have e1 := Nat.eq_of_beq_eq_true hb.1
      have e2 := Nat.eq_of_beq_eq_true hb.2
      have e3 : q.2 = v := Option.some.inj h
      have e4 : q = ((o, j), v) := by rw [← e1, ← e2, ← e3]
      rw [e4]
      exact List.mem_cons_self
    · exact List.mem_cons_of_mem _ (am_fnd_mem h)
theorem am_map_inv {α β : Type} {q : Option α} {f : α → β} {b : β} (h : q.map f = some b) : ∃ a, q = some a ∧ f a = b := by
  cases q with
  | none => cases h
  | some a => exact ⟨a, rfl, Option.some.inj h⟩
def am_cck (ci : Nat) : Bool := match vwCl[ci]? with
  | some (C, T, N) => (List.range N).all (fun k => am_at (((am_layL[ci]?).getD [])[k]?.getD 0) (u_lay C T k)) && (List.range N).all (fun k => decide (parseFieldDescriptor (T k).2.2.1 = some (am_fty ci k))) && (List.range N).all (fun a => (List.range N).all (fun b => a == b || decide (¬ (T a).2.1 = (T b).2.1))) && (List.range N).all (fun k => decide ((T k).1 = C)) && decide ((am_dfl ci).length = N) && (List.range N).all (fun j => decide (defaultValue (am_fty ci j) = vp_V (am_dfl ci) j)) && (am_dfl ci).all (fun v => match v with | .int _ => true | .long _ => true | .null => true | _ => false)
  | none => true
theorem am_cck_ok : (List.range 13).all am_cck = true := by decide +kernel
theorem am_cls {ci : Nat} {C : String} {T : u_T} {N : Nat} (h : vwCl[ci]? = some (C, T, N)) : am_cck ci = true := by
  have hl : ci < 13 := (List.getElem?_eq_some_iff.mp h).1
  exact List.all_eq_true.mp am_cck_ok ci (List.mem_range.mpr hl)
theorem am_cls7 {ci : Nat} {C : String} {T : u_T} {N : Nat} (h : vwCl[ci]? = some (C, T, N)) : ((((((∀ k, k < N → am_at (((am_layL[ci]?).getD [])[k]?.getD 0) (u_lay C T k) = true) ∧ (∀ k, k < N → parseFieldDescriptor (T k).2.2.1 = some (am_fty ci k))) ∧ (∀ a, a < N → ∀ b, b < N → a = b ∨ ¬ (T a).2.1 = (T b).2.1)) ∧ (∀ k, k < N → (T k).1 = C)) ∧ (am_dfl ci).length = N) ∧ (∀ j, j < N → defaultValue (am_fty ci j) = vp_V (am_dfl ci) j)) ∧ (am_dfl ci).all (fun v => match v with | .int _ => true | .long _ => true | .null => true | _ => false) = true := by
  have h1 := am_cls h
  unfold am_cck at h1
  rw [h] at h1
  simpa [Bool.and_eq_true, List.all_eq_true] using h1
def am_fck (q : (Nat × Nat) × (Nat × Nat × Nat)) : Bool := match vwCl[q.2.1]? with
  | some (_, T, N) => decide (q.2.2.1 < N) && (am_at q.2.2.2 (.fieldLink (am_cn q.1.1) q.1.2 (T q.2.2.1).1 (T q.2.2.1).2.1 (T q.2.2.1).2.2.1) || decide ((am_cn q.1.1, q.1.2, (T q.2.2.1).1, (T q.2.2.1).2.1, (T q.2.2.1).2.2.1, "SectionTemplates") ∈ am_NF)) && decide ((T q.2.2.1).2.2.2 = am_fin q.2.1 q.2.2.1)
  | none => false
theorem am_fck_ok : am_fldL.all am_fck = true := by decide +kernel
def am_nck (q : (Nat × Nat) × (Nat × Nat × Nat × Nat)) : Bool := match vwCl[q.2.1]? with
  | some (C, _, N) => am_at q.2.2.1 (.classLink (am_cn q.1.1) q.1.2 C) && am_at q.2.2.2.1 (.instantiable C N) && am_at q.2.2.2.2 (.initialized C)
  | none => false
theorem am_nck_ok : am_newL.all am_nck = true := by decide +kernel
theorem am_ick_ok : am_ldiL.all (fun q => am_at q.2.2 (.constant (am_cn q.1.1) q.1.2 q.2.1)) = true := by decide +kernel
theorem am_lck_ok : am_ldlL.all (fun q => am_at q.2.2 (.constantLong (am_cn q.1.1) q.1.2 q.2.1)) = true := by decide +kernel
theorem am_obj_i : Cond.instanceMethod Lib.objectInit ∈ am_WT := am_at_in (p := 100) (by decide +kernel)
theorem am_obj_c : Cond.code Lib.objectInit ⟨#[0xb1]⟩ 1 none ∈ am_WT := am_at_in (p := 101) (by decide +kernel)
theorem am_arr_i : Cond.arrayClass .int ∈ am_WT := am_at_in (p := 135) (by decide +kernel)
theorem am_arr_l : Cond.arrayClass .long ∈ am_WT := am_at_in (p := 208) (by decide +kernel)
theorem am_arr_z : Cond.arrayClass .boolean ∈ am_WT := am_at_in (p := 1243) (by decide +kernel)
theorem am_NF_in : am_NF.all (fun q => lw_tbl.contains (.fieldLinkNest q.1 q.2.1 q.2.2.1 q.2.2.2.1 q.2.2.2.2.1 q.2.2.2.2.2)) = true := by decide +kernel
theorem am_NM_in : am_NM.all (fun q => lw_tbl.contains (.methodLinkNest q.1 q.2.1 q.2.2.1 q.2.2.2)) = true := by decide +kernel
theorem am_NF_ne : am_NF.all (fun q => decide (¬ q.2.2.1 = q.1)) = true := by decide +kernel
theorem am_NF_other {q : String × Nat × String × String × String × String} (h : q ∈ am_NF) : ¬ q.2.2.1 = q.1 := of_decide_eq_true (List.all_eq_true.mp am_NF_ne q h)
theorem am_ldi_ok {o j : Nat} {v : Int32} (h : am_ldi o j = some v) : Cond.constant (am_cn o) j v ∈ am_WT := by
  obtain ⟨a, h1, h2⟩ := am_map_inv h
  have h3 := List.all_eq_true.mp am_ick_ok _ (am_fnd_mem h1)
  rw [← h2]
  exact am_at_in h3
theorem am_ldl_ok {o j : Nat} {v : Int64} (h : am_ldl o j = some v) : Cond.constantLong (am_cn o) j v ∈ am_WT := by
  obtain ⟨a, h1, h2⟩ := am_map_inv h
  have h3 := List.all_eq_true.mp am_lck_ok _ (am_fnd_mem h1)
  rw [← h2]
  exact am_at_in h3
theorem am_fld_ok {o j ci f : Nat} (h : am_fld o j = some (ci, f)) : ∃ (C : String) (T : u_T) (N : Nat), vwCl[ci]? = some (C, T, N) ∧ f < N ∧ (Cond.fieldLink (am_cn o) j (T f).1 (T f).2.1 (T f).2.2.1 ∈ am_WT ∨ ∃ host, (am_cn o, j, (T f).1, (T f).2.1, (T f).2.2.1, host) ∈ am_NF) ∧ (T f).2.2.2 = am_fin ci f := by
  obtain ⟨⟨c1, f1, p1⟩, h1, h2⟩ := am_map_inv h
  have e1 : c1 = ci := congrArg Prod.fst h2
  have e2 : f1 = f := congrArg Prod.snd h2
  subst e1 e2
  have h3 := List.all_eq_true.mp am_fck_ok _ (am_fnd_mem h1)
  unfold am_fck at h3
  dsimp only at h3
  split at h3
  · rename_i C T N hc
    rw [Bool.and_eq_true, Bool.and_eq_true] at h3
    refine ⟨C, T, N, hc, of_decide_eq_true h3.1.1, ?_, of_decide_eq_true h3.2⟩
    rcases Bool.or_eq_true _ _ ▸ h3.1.2 with g | g
    · exact Or.inl (am_at_in g)
    · exact Or.inr ⟨_, of_decide_eq_true g⟩
  · cases h3
theorem am_newc_ok {o j ci : Nat} (h : am_newc o j = some ci) : ∃ (C : String) (T : u_T) (N : Nat), vwCl[ci]? = some (C, T, N) ∧ Cond.classLink (am_cn o) j C ∈ am_WT ∧ Cond.instantiable C N ∈ am_WT ∧ Cond.initialized C ∈ am_WT ∧ (am_dfl ci).length = N ∧ (∀ j, j < N → defaultValue (am_fty ci j) = vp_V (am_dfl ci) j) ∧ ∀ f : Value → Value, (∀ x, f (.int x) = .int x) → (∀ x, f (.long x) = .long x) → f .null = .null → (am_dfl ci).map f = am_dfl ci := by
  obtain ⟨⟨c1, p1, p2, p3⟩, h1, h2⟩ := am_map_inv h
  have e1 : c1 = ci := h2
  subst e1
  have h3 := List.all_eq_true.mp am_nck_ok _ (am_fnd_mem h1)
  unfold am_nck at h3
  dsimp only at h3
  split at h3
  · rename_i C T N hc
    rw [Bool.and_eq_true, Bool.and_eq_true] at h3
    obtain ⟨⟨⟨-, g5⟩, g6⟩, g7⟩ := am_cls7 hc
    refine ⟨C, T, N, hc, am_at_in h3.1.1, am_at_in h3.1.2, am_at_in h3.2, g5, g6, fun f f1 f2 f3 => ?_⟩
    have g8 := List.all_eq_true.mp g7
    have : ∀ l : List Value, (∀ v ∈ l, (match v with | .int _ => true | .long _ => true | .null => true | _ => false) = true) → l.map f = l := by
      intro l
      induction l with
      | nil => intro _; rfl
      | cons v r ih =>
        intro hv
        have hr := ih (fun w hw => hv w (List.mem_cons_of_mem _ hw))
        have h0 := hv v List.mem_cons_self
        rw [List.map_cons, hr]
        cases v <;> first | rw [f1] | rw [f2] | rw [f3] | (cases h0; done)
    exact this _ g8
  · cases h3
theorem am_ctor_ok {k ci : Nat} {C : String} {T : u_T} {N : Nat} (h : am_ctor k ci = true) (hc : vwCl[ci]? = some (C, T, N)) (hn : C = am_cn (am_own k)) : am_isi k = true ∧ ∀ f, f < N → (T f).1 = am_cn (am_own k) := by
  unfold am_ctor at h
  rw [Bool.and_eq_true] at h
  obtain ⟨⟨⟨⟨-, g4⟩, -⟩, -⟩, -⟩ := am_cls7 hc
  exact ⟨h.1, fun f hf => (g4 f hf).trans hn⟩
def am_kck (k : Nat) : Bool := !(am_isi k) || match vwCl[am_rcv k]? with
  | some (C, _, _) => decide (C = am_cn (am_own k))
  | none => false
theorem am_kck_ok : (List.range 209).all am_kck = true := by decide +kernel
