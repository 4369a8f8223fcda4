/-! THE PLAIN MACHINE AND THE CLAIM'S: how their states lie to each other -/
def am_v (b0 base : Nat) (v : Value) : Value := match v with
  | .ref i => .ref (base + i)
  | .retAddr _ => .ref b0
  | w => w
def am_e (dA : Nat → ClassId) (b0 base : Nat) (c : va_E) : va_E := match c with
  | .inl (k, a) => .inl (dA k, a)
  | .inr (ci, fs) => .inr (ci, fs.map (am_v b0 base))
def am_ws (dA : Nat → ClassId) (b0 base : Nat) (h : am_H) : va_W := h.mapIdx (fun i c => (base + i, am_e dA b0 base c))
/-- slots of a cell, of a heap -/
def am_cs (c : va_E) : Nat := match c with
  | .inl (_, n, _) => n
  | .inr (_, fs) => fs.length
def am_sz (h : am_H) : Nat := (h.map am_cs).sum
def am_A (base : Nat) : Nat → Prop := fun q => base ≤ q
def am_Wd (D : va_G) (dA : Nat → ClassId) (b0 base : Nat) (h : am_H) (H : Heap) : Prop := H.size = base + h.length ∧ va_P D vwCl (am_ws dA b0 base h) H
def am_L (b0 base : Nat) (ls : List Value) (rl : Array Slot) : Prop := ∃ lv : List (Nat × Value), lv_has rl ls.length lv ∧ ∀ (i : Nat) (v : Value), ls[i]? = some v → v ≠ am_U → (i, am_v b0 base v) ∈ lv
theorem am_v_cat (b0 base : Nat) (v : Value) : (am_v b0 base v).category = v.category := by cases v <;> rfl
theorem am_ws_get (dA : Nat → ClassId) (b0 base : Nat) (h : am_H) (i : Nat) : (am_ws dA b0 base h)[i]? = (h[i]?).map (fun c => (base + i, am_e dA b0 base c)) := by
  simp [am_ws, List.getElem?_mapIdx]
theorem am_ws_set (dA : Nat → ClassId) (b0 base : Nat) (h : am_H) (i : Nat) (c : va_E) : am_ws dA b0 base (h.set i c) = (am_ws dA b0 base h).set i (base + i, am_e dA b0 base c) := by
  apply List.ext_getElem?
  intro j
  rw [am_ws_get, List.getElem?_set, List.getElem?_set, am_ws_get]
  by_cases hij : i = j
  · subst hij
    simp only [if_true]
    by_cases hl : i < h.length
    · have hl2 : i < (am_ws dA b0 base h).length := by simpa [am_ws] using hl
      simp [hl, hl2]
    · have hl2 : ¬ i < (am_ws dA b0 base h).length := by simpa [am_ws] using hl
      simp [hl, hl2]
  · simp [hij]
theorem am_ws_len (dA : Nat → ClassId) (b0 base : Nat) (h : am_H) : (am_ws dA b0 base h).length = h.length := by simp [am_ws]
theorem am_ws_app (dA : Nat → ClassId) (b0 base : Nat) (h : am_H) (c : va_E) : am_ws dA b0 base (h ++ [c]) = am_ws dA b0 base h ++ [(base + h.length, am_e dA b0 base c)] := by
  simp [am_ws, List.mapIdx_append]
theorem am_D (dA : Nat → ClassId) (b0 base : Nat) (h : am_H) : va_D (am_A base) (am_ws dA b0 base h) := by
  have key : ∀ (i : Nat) (q : Nat × va_E), (am_ws dA b0 base h)[i]? = some q → q.1 = base + i := by
    intro i q hq
    rw [am_ws_get] at hq
    cases hc : h[i]? with
    | none => rw [hc] at hq; cases hq
    | some c => rw [hc] at hq; cases hq; rfl
  refine ⟨fun i j p q hp hq e => ?_, fun k q hq => ?_⟩
  · have h1 := key i p hp
    have h2 := key j q hq
    omega
  · show base ≤ q.1
    rw [key k q hq]
    omega
theorem am_sz_set {h : am_H} {i : Nat} {c c' : va_E} (hi : h[i]? = some c) (hc : am_cs c' = am_cs c) : am_sz (h.set i c') = am_sz h := by
  induction h generalizing i with
  | nil => cases hi
  | cons x r ih => cases i with
    | zero => cases hi; simp [am_sz, hc]
    | succ j =>
      have ih' := ih (i := j) hi
      unfold am_sz at ih' ⊢
      show (List.map am_cs (x :: r.set j c')).sum = (List.map am_cs (x :: r)).sum
      rw [List.map_cons, List.map_cons, List.sum_cons, List.sum_cons, ih']
theorem am_sz_app (h : am_H) (c : va_E) : am_sz (h ++ [c]) = am_sz h + am_cs c := by simp [am_sz]
theorem am_L.get {b0 base : Nat} {ls : List Value} {rl : Array Slot} (h : am_L b0 base ls rl) {i : Nat} {v : Value} (hi : ls[i]? = some v) (hv : v ≠ am_U) : rl[i]? = some (.val (am_v b0 base v)) := by
  obtain ⟨lv, h1, h2⟩ := h
  exact h1.2.2 _ (h2 i v hi hv)
theorem am_L.size {b0 base : Nat} {ls : List Value} {rl : Array Slot} (h : am_L b0 base ls rl) : rl.size = ls.length := h.choose_spec.1.1
theorem am_cut_len (ls : List Value) (x : Nat) : (am_cut ls x).length = ls.length := by
  cases x with
  | zero => rfl
  | succ y =>
    show (match ls[y]? with
      | some (.long _) => ls.set y am_U
      | some (.double _) => ls.set y am_U
      | _ => ls).length = ls.length
    split <;> simp
theorem am_p1_len (ls : List Value) (x : Nat) (v : Value) : (am_p1 ls x v).length = ls.length := by simp [am_p1, am_cut_len]
theorem am_p2_len (ls : List Value) (x : Nat) (v : Value) : (am_p2 ls x v).length = ls.length := by simp [am_p2, am_cut_len]
theorem am_cut_get {ls : List Value} {x i : Nat} {w : Value} (h : (am_cut ls x)[i]? = some w) (hw : w ≠ am_U) : ls[i]? = some w ∧ ¬ (i + 1 = x ∧ w.category = 2) := by
  cases x with
  | zero => exact ⟨h, fun q => by omega⟩
  | succ y =>
    have h' : (match ls[y]? with
      | some (.long _) => ls.set y am_U
      | some (.double _) => ls.set y am_U
      | _ => ls)[i]? = some w := h
    have side : ∀ h2 : (ls.set y am_U)[i]? = some w, ls[i]? = some w ∧ ¬ (i + 1 = y + 1 ∧ w.category = 2) := by
      intro h2
      rw [List.getElem?_set] at h2
      by_cases e : y = i
      · rw [if_pos e] at h2
        by_cases e2 : y < ls.length
        · rw [if_pos e2] at h2
          exact absurd (Option.some.inj h2).symm hw
        · rw [if_neg e2] at h2
          cases h2
      · rw [if_neg e] at h2
        exact ⟨h2, fun q => by omega⟩
    split at h'
    · exact side h'
    · exact side h'
    · rename_i hA hB
      refine ⟨h', fun q => ?_⟩
      have e : i = y := by omega
      subst e
      cases w <;> first | (exact absurd q.2 (by decide)) | (exact hA _ h') | (exact hB _ h') | (have := q.2; simp [Value.category] at this)
theorem am_L.p1 {b0 base : Nat} {ls : List Value} {rl : Array Slot} {lv : List (Nat × Value)} {x : Nat} {v : Value} (hc : ∀ (i : Nat) (v : Value), ls[i]? = some v → v ≠ am_U → (i, am_v b0 base v) ∈ lv) (hx : x < ls.length)
    (h : lv_has rl ls.length ((x, am_v b0 base v) :: lv.filter (fun q => !(q.1 == x) && !(q.1 + 1 == x && q.2.category == 2)))) : am_L b0 base (am_p1 ls x v) rl := by
  refine ⟨_, by rw [am_p1_len]; exact h, fun i w hi hw => ?_⟩
  unfold am_p1 at hi
  rw [List.getElem?_set] at hi
  by_cases e : x = i
  · rw [if_pos e, if_pos (by rw [am_cut_len]; exact hx)] at hi
    cases hi
    subst e
    exact List.mem_cons_self
  · rw [if_neg e] at hi
    obtain ⟨g1, g2⟩ := am_cut_get hi hw
    refine List.mem_cons_of_mem _ (List.mem_filter.mpr ⟨hc i w g1 hw, ?_⟩)
    have e1 : ¬ i = x := fun q => e q.symm
    rw [← am_v_cat b0 base w] at g2
    simp [e1]
    omega
theorem am_L.p2 {b0 base : Nat} {ls : List Value} {rl : Array Slot} {lv : List (Nat × Value)} {x : Nat} {v : Value} (hc : ∀ (i : Nat) (v : Value), ls[i]? = some v → v ≠ am_U → (i, am_v b0 base v) ∈ lv) (hx : x + 1 < ls.length)
    (h : lv_has rl ls.length ((x, am_v b0 base v) :: lv.filter (fun q => !(q.1 == x) && (!(q.1 == x + 1) && !(q.1 + 1 == x && q.2.category == 2))))) : am_L b0 base (am_p2 ls x v) rl := by
  refine ⟨_, by rw [am_p2_len]; exact h, fun i w hi hw => ?_⟩
  unfold am_p2 at hi
  rw [List.getElem?_set] at hi
  by_cases e2 : x + 1 = i
  · rw [if_pos e2, if_pos (by rw [List.length_set, am_cut_len]; exact hx)] at hi
    exact absurd (Option.some.inj hi).symm hw
  · rw [if_neg e2, List.getElem?_set] at hi
    by_cases e : x = i
    · rw [if_pos e, if_pos (by rw [am_cut_len]; omega)] at hi
      cases hi
      subst e
      exact List.mem_cons_self
    · rw [if_neg e] at hi
      obtain ⟨g1, g2⟩ := am_cut_get hi hw
      refine List.mem_cons_of_mem _ (List.mem_filter.mpr ⟨hc i w g1 hw, ?_⟩)
      have e1 : ¬ i = x := fun q => e q.symm
      have e3 : ¬ i = x + 1 := fun q => e2 q.symm
      rw [← am_v_cat b0 base w] at g2
      simp [e1, e3]
      omega
theorem am_lay_in (b0 base : Nat) : ∀ (as : List Value) (k i : Nat) (v : Value), (am_lay as)[i]? = some v → v ≠ am_U → (k + i, am_v b0 base v) ∈ lv_args k (as.map (am_v b0 base))
  | [], k, i, v, h, _ => by simp [am_lay] at h
  | a :: r, k, i, v, h, hv => by
    by_cases hc : a.category = 2
    · have e : am_lay (a :: r) = a :: am_U :: am_lay r := by simp [am_lay, hc]
      rw [e] at h
      have hcat : (am_v b0 base a).category = 2 := by rw [am_v_cat]; exact hc
      simp only [List.map_cons, lv_args, hcat, if_true]
      match i, h with
      | 0, h => cases h; exact List.mem_cons_self
      | 1, h => exact absurd (Option.some.inj h).symm hv
      | j + 2, h =>
        have := am_lay_in b0 base r (k + 2) j v (by simpa using h) hv
        exact List.mem_cons_of_mem _ (by rw [show k + (j + 2) = k + 2 + j by omega]; exact this)
    · have e : am_lay (a :: r) = a :: am_lay r := by simp [am_lay, hc]
      rw [e] at h
      have hcat : ¬ (am_v b0 base a).category = 2 := by rw [am_v_cat]; exact hc
      simp only [List.map_cons, lv_args, if_neg hcat]
      match i, h with
      | 0, h => cases h; exact List.mem_cons_self
      | j + 1, h =>
        have := am_lay_in b0 base r (k + 1) j v (by simpa using h) hv
        exact List.mem_cons_of_mem _ (by rw [show k + (j + 1) = k + 1 + j by omega]; exact this)
theorem am_lay_len (b0 base : Nat) : ∀ as : List Value, (lg_sl (as.map (am_v b0 base))).length = (am_lay as).length
  | [] => rfl
  | a :: r => by
    have ih := am_lay_len b0 base r
    by_cases hc : a.category = 2
    · have hcat : (am_v b0 base a).category = 2 := by rw [am_v_cat]; exact hc
      simp [lg_sl, am_lay, hc, hcat] at ih ⊢
      omega
    · have hcat : ¬ (am_v b0 base a).category = 2 := by rw [am_v_cat]; exact hc
      simp [lg_sl, am_lay, hc, hcat] at ih ⊢
      omega
theorem am_ent_L {b0 base : Nat} {as : List Value} {n : Nat} (h : (am_lay as).length ≤ n) : am_L b0 base (am_ent as n) ((lg_sl (as.map (am_v b0 base)) ++ List.replicate (n - (lg_sl (as.map (am_v b0 base))).length) Slot.unset).toArray) := by
  have hlen : (am_ent as n).length = n := by simp [am_ent]; omega
  refine ⟨_, by rw [hlen]; exact lv_entry (as.map (am_v b0 base)) (by rw [am_lay_len]; exact h), fun i v hi hv => ?_⟩
  unfold am_ent at hi
  by_cases hl : i < (am_lay as).length
  · rw [List.getElem?_append_left hl] at hi
    have := am_lay_in b0 base as 0 i v hi hv
    rwa [Nat.zero_add] at this
  · rw [List.getElem?_append_right (by omega)] at hi
    exact absurd (List.eq_of_mem_replicate (List.mem_of_getElem? hi)) hv
