/-! ===== the small machine's cells in the real heap ===== -/
def mm_ad (b h0 : Nat) : Nat → Nat
  | 0 => b
  | k + 1 => h0 + k
def mm_up (b h0 : Nat) : Value → Value
  | .ref a => .ref (mm_ad b h0 a)
  | v => v
theorem mm_up_cat (b h0 : Nat) (v : Value) : (mm_up b h0 v).category = v.category := by cases v <;> rfl
def mm_uE (dA : Nat → ClassId) (b h0 : Nat) (c : mm_E) : va_E := match c with
  | .inl (t, n, .inr (.inr (.inr (.inr f)))) => .inl (dA t, n, .inr (.inr (.inr (.inr (fun j => (f j).map (mm_ad b h0))))))
  | .inl (t, n, .inr (.inr (.inr (.inl f)))) => .inl (dA t, n, .inr (.inr (.inr (.inl f))))
  | .inl (t, n, .inr (.inr (.inl f))) => .inl (dA t, n, .inr (.inr (.inl f)))
  | .inl (t, n, .inr (.inl f)) => .inl (dA t, n, .inr (.inl f))
  | .inl (t, n, .inl f) => .inl (dA t, n, .inl f)
  | .inr (ci, fs) => .inr (ci, fs.map (mm_up b h0))
def mm_tys (dA : Nat → ClassId) : List (ClassId × FieldType) := [(dA 0, mm_ty 0), (dA 1, mm_ty 1), (dA 2, mm_ty 2), (dA 3, mm_ty 3)]
abbrev mm_A (h0 : Nat) : Nat → Prop := fun q => h0 ≤ q
def mm_ws (dA : Nat → ClassId) (b h0 : Nat) (M : mm_M) : va_W := (List.range (M.2.1 - 1)).map fun k => (h0 + k, mm_uE dA b h0 ((M.1 (k + 1)).getD (.inr (0, []))))
def mm_Wd (D : va_G) (dA : Nat → ClassId) (b h0 : Nat) (M : mm_M) (H : Heap) : Prop := (1 ≤ M.2.1 ∧ H.size + 1 = h0 + M.2.1) ∧ (∀ k c, M.1 k = some c → 1 ≤ k ∧ k < M.2.1) ∧ (∀ k, 1 ≤ k → k < M.2.1 → ∃ c, M.1 k = some c) ∧ va_P D vwCl (mm_ws dA b h0 M) H
theorem mm_rng {n k j : Nat} (h : (List.range n)[k]? = some j) : j = k ∧ k < n := by
  obtain ⟨h1, h2⟩ := List.getElem?_eq_some_iff.mp h
  rw [List.getElem_range] at h2
  rw [List.length_range] at h1
  exact ⟨h2.symm, h1⟩
theorem mm_rng' {n k : Nat} (h : k < n) : (List.range n)[k]? = some k := by
  rw [List.getElem?_eq_some_iff]
  exact ⟨by rw [List.length_range]; exact h, List.getElem_range _⟩
theorem mm_ws_at {D : va_G} {dA : Nat → ClassId} {b h0 a : Nat} {M : mm_M} {H : Heap} {c : mm_E} (hW : mm_Wd D dA b h0 M H) (h : M.1 a = some c) : ∃ q0, a = q0 + 1 ∧ q0 + 1 < M.2.1 ∧ mm_ad b h0 a = h0 + q0 ∧ (mm_ws dA b h0 M)[q0]? = some (h0 + q0, mm_uE dA b h0 c) := by
  obtain ⟨h1, h2⟩ := hW.2.1 a c h
  obtain ⟨q0, rfl⟩ : ∃ q, a = q + 1 := ⟨a - 1, by omega⟩
  refine ⟨q0, rfl, h2, rfl, ?_⟩
  unfold mm_ws
  rw [List.getElem?_map, mm_rng' (by omega)]
  simp [h]
theorem mm_ws_in {dA : Nat → ClassId} {b h0 k : Nat} {M : mm_M} {q : Nat × va_E} (h : (mm_ws dA b h0 M)[k]? = some q) : q.1 = h0 + k ∧ k + 1 < M.2.1 := by
  unfold mm_ws at h
  rw [List.getElem?_map] at h
  cases hr : (List.range (M.2.1 - 1))[k]? with
  | none => rw [hr] at h; cases h
  | some j =>
    rw [hr] at h
    obtain ⟨rfl, hk⟩ := mm_rng hr
    cases h
    exact ⟨rfl, by omega⟩
theorem mm_ws_D (dA : Nat → ClassId) (b h0 : Nat) (M : mm_M) : va_D (mm_A h0) (mm_ws dA b h0 M) := by
  refine ⟨fun i j p q hi hj e => ?_, fun k q hk => ?_⟩
  · have h1 := (mm_ws_in hi).1
    have h2 := (mm_ws_in hj).1
    omega
  · have h1 := (mm_ws_in hk).1
    show h0 ≤ q.1
    omega
theorem mm_ws_put {dA : Nat → ClassId} {b h0 q0 : Nat} {M : mm_M} {c : mm_E} (h : q0 + 1 < M.2.1) : (mm_ws dA b h0 M).set q0 (h0 + q0, mm_uE dA b h0 c) = mm_ws dA b h0 (mm_put M (q0 + 1) c) := by
  apply List.ext_getElem?
  intro k
  rw [List.getElem?_set]
  by_cases e : q0 = k
  · subst e
    rw [if_pos rfl, if_pos (by unfold mm_ws; rw [List.length_map, List.length_range]; omega)]
    unfold mm_ws mm_put
    rw [List.getElem?_map, mm_rng' (by show q0 < M.2.1 - 1; omega)]
    simp [mm_u]
  · rw [if_neg e]
    unfold mm_ws mm_put
    rw [List.getElem?_map, List.getElem?_map]
    cases hr : (List.range (M.2.1 - 1))[k]? with
    | none => rfl
    | some j =>
      obtain ⟨rfl, -⟩ := mm_rng hr
      have e2 : ¬ j = q0 := fun q => e q.symm
      simp [mm_u, e2]
theorem mm_ws_add {dA : Nat → ClassId} {b h0 z : Nat} {M : mm_M} {c : mm_E} (h : 1 ≤ M.2.1) : mm_ws dA b h0 (mm_add M c z) = mm_ws dA b h0 M ++ [(h0 + (M.2.1 - 1), mm_uE dA b h0 c)] := by
  unfold mm_ws mm_add
  show (List.range (M.2.1 + 1 - 1)).map _ = _
  rw [show M.2.1 + 1 - 1 = (M.2.1 - 1) + 1 by omega, List.range_succ, List.map_append]
  congr 1
  · apply List.map_congr_left
    intro k hk
    have hk := List.mem_range.mp hk
    have e : ¬ k + 1 = M.2.1 := by omega
    simp [mm_u, e]
  · have e : M.2.1 - 1 + 1 = M.2.1 := by omega
    simp [mm_u, e]
/-- the world behind a store -/
theorem mm_Wd_put {D : va_G} {dA : Nat → ClassId} {b h0 a : Nat} {M : mm_M} {H H1 : Heap} {c0 c : mm_E} (hW : mm_Wd D dA b h0 M H) (h : M.1 a = some c0) (hz : H1.size = H.size) (hP : va_P D vwCl (mm_ws dA b h0 (mm_put M a c)) H1) : mm_Wd D dA b h0 (mm_put M a c) H1 := by
  obtain ⟨⟨z1, z2⟩, k1, k2, -⟩ := hW
  refine ⟨⟨z1, by rw [hz]; exact z2⟩, fun k c' hk => ?_, fun k h1 h2 => ?_, hP⟩
  · by_cases e : k = a
    · subst e
      exact k1 k c0 h
    · have h3 : M.1 k = some c' := by
        have h4 : mm_u M.1 a c k = some c' := hk
        unfold mm_u at h4
        rw [if_neg e] at h4
        exact h4
      exact k1 k c' h3
  · show ∃ c', mm_u M.1 a c k = some c'
    unfold mm_u
    by_cases e : k = a
    · exact ⟨c, by rw [if_pos e]⟩
    · rw [if_neg e]
      exact k2 k h1 h2
theorem mm_Wd_add {D : va_G} {dA : Nat → ClassId} {b h0 z : Nat} {M : mm_M} {H H1 : Heap} {c : mm_E} (hW : mm_Wd D dA b h0 M H) (hz : H1.size = H.size + 1) (hP : va_P D vwCl (mm_ws dA b h0 (mm_add M c z)) H1) : mm_Wd D dA b h0 (mm_add M c z) H1 := by
  obtain ⟨⟨z1, z2⟩, k1, k2, -⟩ := hW
  refine ⟨⟨by show 1 ≤ M.2.1 + 1; omega, by rw [hz]; show H.size + 1 + 1 = h0 + (M.2.1 + 1); omega⟩, fun k c' hk => ?_, fun k h1 h2 => ?_, hP⟩
  · show 1 ≤ k ∧ k < M.2.1 + 1
    by_cases e : k = M.2.1
    · omega
    · have h3 : M.1 k = some c' := by
        have h4 : mm_u M.1 M.2.1 c k = some c' := hk
        unfold mm_u at h4
        rw [if_neg e] at h4
        exact h4
      have h5 := k1 k c' h3
      omega
  · show ∃ c', mm_u M.1 M.2.1 c k = some c'
    have h3 : k < M.2.1 + 1 := h2
    unfold mm_u
    by_cases e : k = M.2.1
    · exact ⟨c, by rw [if_pos e]⟩
    · rw [if_neg e]
      exact k2 k h1 (by omega)
-- locals
def mm_lh (b h0 : Nat) (ls : Array Slot) (L : mm_L) : Prop := ls.size = L.length ∧ lv_wf ls ∧ ∀ (i : Nat) (v : Value), L[i]? = some (some v) → v.category = 1 ∧ ls[i]? = some (.val (mm_up b h0 v))
def mm_p1 (b h0 : Nat) (L : mm_L) (i : Nat) : Option (Nat × Value) := match L[i]? with
  | some (some v) => some (i, mm_up b h0 v)
  | _ => none
def mm_pr (b h0 : Nat) (L : mm_L) : List (Nat × Value) := (List.range L.length).filterMap (mm_p1 b h0 L)
theorem mm_lh_has {b h0 : Nat} {ls : Array Slot} {L : mm_L} (h : mm_lh b h0 ls L) : lv_has ls L.length (mm_pr b h0 L) := by
  refine ⟨h.1, h.2.1, fun q hq => ?_⟩
  obtain ⟨i, -, hi⟩ := List.mem_filterMap.mp hq
  unfold mm_p1 at hi
  split at hi
  · next v e =>
    cases hi
    exact (h.2.2 i v e).2
  · cases hi
theorem mm_pr_mem {b h0 i : Nat} {L : mm_L} {v : Value} (hi : L[i]? = some (some v)) : (i, mm_up b h0 v) ∈ mm_pr b h0 L :=
  List.mem_filterMap.mpr ⟨i, List.mem_range.mpr (List.getElem?_eq_some_iff.mp hi).1, by unfold mm_p1; rw [hi]⟩
theorem mm_lh_set {b h0 k : Nat} {ls ls' : Array Slot} {L : mm_L} {x : Value} (h : mm_lh b h0 ls L) (hx : x.category = 1) (hk : k < L.length) (h' : lv_has ls' L.length ((k, mm_up b h0 x) :: (mm_pr b h0 L).filter (fun q => !(q.1 == k) && !(q.1 + 1 == k && q.2.category == 2)))) : mm_lh b h0 ls' (L.set k (some x)) := by
  refine ⟨by rw [List.length_set]; exact h'.1, h'.2.1, fun i v hi => ?_⟩
  rw [List.getElem?_set] at hi
  by_cases e : k = i
  · subst e
    rw [if_pos rfl, if_pos hk] at hi
    cases hi
    exact ⟨hx, h'.2.2 (k, _) List.mem_cons_self⟩
  · rw [if_neg e] at hi
    obtain ⟨hc, -⟩ := h.2.2 i v hi
    refine ⟨hc, h'.2.2 (i, mm_up b h0 v) (List.mem_cons_of_mem _ (List.mem_filter.mpr ⟨mm_pr_mem hi, ?_⟩))⟩
    have e2 : ¬ i = k := fun q => e q.symm
    simp [e2, mm_up_cat, hc]
theorem mm_lh_entry {b h0 n : Nat} {as : List Value} (hc : ∀ v ∈ as, v.category = 1) (hn : as.length ≤ n) : mm_lh b h0 (((as.map (mm_up b h0)).map Slot.val ++ List.replicate (n - (as.map (mm_up b h0)).length) Slot.unset).toArray) (as.map some ++ List.replicate (n - as.length) none) := by
  have key : ∀ (i : Nat) (v : Value), (((as.map (mm_up b h0)).map Slot.val ++ List.replicate (n - (as.map (mm_up b h0)).length) Slot.unset).toArray)[i]? = some (.val v) → v.category = 1 := by
    intro i v hi
    rw [List.getElem?_toArray] at hi
    rcases List.mem_append.mp (List.mem_of_getElem? hi) with h | h
    · obtain ⟨w, hw, e⟩ := List.mem_map.mp h
      obtain ⟨u, hu, rfl⟩ := List.mem_map.mp hw
      cases e
      rw [mm_up_cat]
      exact hc u hu
    · have := (List.mem_replicate.mp h).2
      cases this
  have key2 : ∀ i : Nat, (((as.map (mm_up b h0)).map Slot.val ++ List.replicate (n - (as.map (mm_up b h0)).length) Slot.unset).toArray)[i]? ≠ some .second := by
    intro i hi
    rw [List.getElem?_toArray] at hi
    rcases List.mem_append.mp (List.mem_of_getElem? hi) with h | h
    · obtain ⟨w, hw, e⟩ := List.mem_map.mp h
      cases e
    · have := (List.mem_replicate.mp h).2
      cases this
  refine ⟨?_, ⟨fun i v hi h2 => ?_, fun i hi => absurd hi (key2 i)⟩, fun i v hi => ?_⟩
  · simp
  · have := key i v hi
    omega
  · rw [List.getElem?_append] at hi
    split at hi
    · next hlt =>
      rw [List.getElem?_map] at hi
      cases ha : as[i]? with
      | none => rw [ha] at hi; cases hi
      | some w =>
        rw [ha] at hi
        cases hi
        refine ⟨hc _ (List.mem_of_getElem? ha), ?_⟩
        rw [List.getElem?_toArray, List.getElem?_append_left (by simpa using (List.getElem?_eq_some_iff.mp ha).1), List.getElem?_map, List.getElem?_map, ha]
        rfl
    · have h3 := List.mem_of_getElem? hi
      have := (List.mem_replicate.mp h3).2
      cases this
