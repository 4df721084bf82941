theorem mm_df_P : ∀ c, c < 13 → (mm_df c).all (fun v => match v with | .ref _ => false | _ => true) = true := by decide +kernel
theorem mm_df_up (b h0 ci : Nat) (h : ci < 13) : (mm_df ci).map (mm_up b h0) = mm_df ci := by
  have h1 := List.all_eq_true.mp (mm_df_P ci h)
  rw [List.map_congr_left (g := id) (fun v hv => ?_), List.map_id]
  have h2 := h1 v hv
  cases v <;> first | rfl | cases h2
theorem mm_ft_ok {o k ci j q : Nat} (h : mm_l2 mm_fT o k = some (ci, j, q)) : (.fieldLink (mm_cn o) k (mm_cn ci) (mm_T ci j).2.1 (mm_T ci j).2.2.1 : Cond) ∈ mm_tb ∧ j < mm_N ci ∧ ci < 13 ∧ (mm_T ci j).1 = mm_cn ci := by
  have h1 := List.all_eq_true.mp mm_fok_all _ (mm_l2_mem h)
  unfold mm_fok at h1
  rw [Bool.and_eq_true] at h1
  have h2 := of_decide_eq_true h1.2
  exact ⟨mm_at_mem h1.1 rfl, h2.1, h2.2.1, h2.2.2⟩
theorem mm_nt_ok {o k ci q : Nat} (h : mm_l2 mm_nT o k = some (ci, q)) : (.classLink (mm_cn o) k (mm_cn ci) : Cond) ∈ mm_tb ∧ ci < 13 := by
  have h1 := List.all_eq_true.mp mm_nok_all _ (mm_l2_mem h)
  unfold mm_nok at h1
  rw [Bool.and_eq_true] at h1
  exact ⟨mm_at_mem h1.1 rfl, of_decide_eq_true h1.2⟩
theorem mm_at_ok {o k t q r : Nat} (h : mm_l2 mm_aT o k = some (t, q, r)) : ∃ ci, mm_tc t = some ci ∧ (.classLink (mm_cn o) k (mm_cn ci) : Cond) ∈ mm_tb ∧ (.arrayOver (.object (mm_cn ci)) : Cond) ∈ lw_tbl := by
  have h1 := List.all_eq_true.mp mm_aok_all _ (mm_l2_mem h)
  unfold mm_aok at h1
  split at h1
  · next ci hc =>
    rw [Bool.and_eq_true] at h1
    exact ⟨ci, hc, mm_at_mem h1.1 rfl, mm_at_in h1.2⟩
  · cases h1
theorem mm_ct_ok {o k q : Nat} {v : Int32} (h : mm_l2 mm_cT o k = some (v, q)) : (.constant (mm_cn o) k v : Cond) ∈ mm_tb := mm_at_mem (List.all_eq_true.mp mm_cok_all _ (mm_l2_mem h)) rfl
theorem mm_cl_ok {ci : Nat} (h : ci < 13) : mm_clP ci := ce_13 ci h
theorem mm_fit_ok {ty : FieldType} {v : Value} (b h0 : Nat) (h : mm_fit ty v = true) : narrow ty (mm_up b h0 v) = mm_up b h0 v ∧ fits ty (mm_up b h0 v) = true := by
  unfold mm_fit at h
  split at h
  · next x =>
    rcases of_decide_eq_true h with rfl | rfl
    · exact ⟨by rfl, by rfl⟩
    · exact ⟨by rfl, by rfl⟩
  · exact ⟨rfl, rfl⟩
  · exact ⟨rfl, rfl⟩
  · exact ⟨rfl, rfl⟩
  · cases h
theorem mm_uE_i (dA : Nat → ClassId) (b h0 t n : Nat) (f : Nat → Int32) : mm_uE dA b h0 (.inl (t, n, .inl f)) = .inl (dA t, n, .inl f) := rfl
theorem mm_uE_q (dA : Nat → ClassId) (b h0 t n : Nat) (f : Nat → Option Nat) : mm_uE dA b h0 (.inl (t, n, .inr (.inr (.inr (.inr f))))) = .inl (dA t, n, .inr (.inr (.inr (.inr (fun j => (f j).map (mm_ad b h0)))))) := rfl
theorem mm_uE_o (dA : Nat → ClassId) (b h0 ci : Nat) (fs : List Value) : mm_uE dA b h0 (.inr (ci, fs)) = .inr (ci, fs.map (mm_up b h0)) := rfl
theorem mm_uE_a (dA : Nat → ClassId) (b h0 t n : Nat) (z : (Nat → Int32) ⊕ (Nat → Int64) ⊕ (Nat → UInt32) ⊕ (Nat → UInt64) ⊕ (Nat → Option Nat)) : ∃ z', mm_uE dA b h0 (.inl (t, n, z)) = .inl (dA t, n, z') := by
  rcases z with f | f | f | f | f
  · exact ⟨_, rfl⟩
  · exact ⟨_, rfl⟩
  · exact ⟨_, rfl⟩
  · exact ⟨_, rfl⟩
  · exact ⟨_, rfl⟩
section MMT
variable {p : Program} {l : Launch} {e : Env} {R : Room} {s : State} {m : MethodId} {args : Array Value} {below : List Frame} {meth : Method} {c : Code} {H : Heap} {locs : List Loc} {Q : State → Prop} {D : va_G} {dA : Nat → ClassId} {b h0 : Nat} {S : mm_S} {mi pc n0 u0 : Nat} {ls : Array Slot} {L : mm_L} {st : List Value} {M : mm_M}
theorem ms_iconst (C : mm_Cx D dA b h0 S p s m args meth c mi) (hW : mm_Wd D dA b h0 M H) (hS : va_S (mm_A h0) s.heap H locs) (hl : mm_lh b h0 ls L) (hs0 : s.heap.size + 1 = h0 + n0) (hn0 : n0 ≤ M.2.1) (hu0 : u0 ≤ M.2.2) {fr : mm_F} (hRc : fr.2.2.2.2.1 ≤ R.cells + n0) (hRs : fr.2.2.2.2.2 ≤ R.slots + u0) {n : Int} (hd : decode (mm_by mi) pc = .ok (.iconst n, 1)) (hst : (some (pc + 1, L, .int (Int32.ofInt n) :: st, M) : Option mm_F) = some fr) (go : mm_Go p l e R s m args below meth c Q D dA b h0 n0 u0 fr) : W p l e R s m args below meth c H locs (M.2.1 - n0) (M.2.2 - u0) Q (F0 m pc ls (st.map (mm_up b h0))) := by
  obtain ⟨hx, hb, hml, hrt, hlk, hown, hts, hnx, hK, hini, hX, hbl, hh0⟩ := C
  cases hst
  exact lv_iconst (rest := st.map (mm_up b h0)) hx hb hd rfl (go H locs ls hW hS hl)
theorem ms_bipush (C : mm_Cx D dA b h0 S p s m args meth c mi) (hW : mm_Wd D dA b h0 M H) (hS : va_S (mm_A h0) s.heap H locs) (hl : mm_lh b h0 ls L) (hs0 : s.heap.size + 1 = h0 + n0) (hn0 : n0 ≤ M.2.1) (hu0 : u0 ≤ M.2.2) {fr : mm_F} (hRc : fr.2.2.2.2.1 ≤ R.cells + n0) (hRs : fr.2.2.2.2.2 ≤ R.slots + u0) {n : Int} (hd : decode (mm_by mi) pc = .ok (.bipush n, 2)) (hst : (some (pc + 2, L, .int (Int8.ofInt n).toInt32 :: st, M) : Option mm_F) = some fr) (go : mm_Go p l e R s m args below meth c Q D dA b h0 n0 u0 fr) : W p l e R s m args below meth c H locs (M.2.1 - n0) (M.2.2 - u0) Q (F0 m pc ls (st.map (mm_up b h0))) := by
  obtain ⟨hx, hb, hml, hrt, hlk, hown, hts, hnx, hK, hini, hX, hbl, hh0⟩ := C
  cases hst
  exact lv_bipush (rest := st.map (mm_up b h0)) hx hb hd rfl (go H locs ls hW hS hl)
theorem ms_sipush (C : mm_Cx D dA b h0 S p s m args meth c mi) (hW : mm_Wd D dA b h0 M H) (hS : va_S (mm_A h0) s.heap H locs) (hl : mm_lh b h0 ls L) (hs0 : s.heap.size + 1 = h0 + n0) (hn0 : n0 ≤ M.2.1) (hu0 : u0 ≤ M.2.2) {fr : mm_F} (hRc : fr.2.2.2.2.1 ≤ R.cells + n0) (hRs : fr.2.2.2.2.2 ≤ R.slots + u0) {n : Int} (hd : decode (mm_by mi) pc = .ok (.sipush n, 3)) (hst : (some (pc + 3, L, .int (Int16.ofInt n).toInt32 :: st, M) : Option mm_F) = some fr) (go : mm_Go p l e R s m args below meth c Q D dA b h0 n0 u0 fr) : W p l e R s m args below meth c H locs (M.2.1 - n0) (M.2.2 - u0) Q (F0 m pc ls (st.map (mm_up b h0))) := by
  obtain ⟨hx, hb, hml, hrt, hlk, hown, hts, hnx, hK, hini, hX, hbl, hh0⟩ := C
  cases hst
  exact lv_sipush (rest := st.map (mm_up b h0)) hx hb hd rfl (go H locs ls hW hS hl)
theorem ms_ldc (C : mm_Cx D dA b h0 S p s m args meth c mi) (hW : mm_Wd D dA b h0 M H) (hS : va_S (mm_A h0) s.heap H locs) (hl : mm_lh b h0 ls L) (hs0 : s.heap.size + 1 = h0 + n0) (hn0 : n0 ≤ M.2.1) (hu0 : u0 ≤ M.2.2) {fr : mm_F} (hRc : fr.2.2.2.2.1 ≤ R.cells + n0) (hRs : fr.2.2.2.2.2 ≤ R.slots + u0) {k : Nat} (hd : decode (mm_by mi) pc = .ok (.ldc k, 2)) (hst : (match mm_l2 mm_cT (mm_ow mi) k with | some (v, _) => some (pc + 2, L, .int v :: st, M) | none => none : Option mm_F) = some fr) (go : mm_Go p l e R s m args below meth c Q D dA b h0 n0 u0 fr) : W p l e R s m args below meth c H locs (M.2.1 - n0) (M.2.2 - u0) Q (F0 m pc ls (st.map (mm_up b h0))) := by
  obtain ⟨hx, hb, hml, hrt, hlk, hown, hts, hnx, hK, hini, hX, hbl, hh0⟩ := C
  split at hst
  · next v q hq =>
    cases hst
    exact lv_ldc (rest := st.map (mm_up b h0)) hx hb hown (hts _ (mm_ct_ok hq)) hd (go H locs ls hW hS hl)
  · cases hst
theorem ms_ldc_w (C : mm_Cx D dA b h0 S p s m args meth c mi) (hW : mm_Wd D dA b h0 M H) (hS : va_S (mm_A h0) s.heap H locs) (hl : mm_lh b h0 ls L) (hs0 : s.heap.size + 1 = h0 + n0) (hn0 : n0 ≤ M.2.1) (hu0 : u0 ≤ M.2.2) {fr : mm_F} (hRc : fr.2.2.2.2.1 ≤ R.cells + n0) (hRs : fr.2.2.2.2.2 ≤ R.slots + u0) {k : Nat} (hd : decode (mm_by mi) pc = .ok (.ldc_w k, 3)) (hst : (match mm_l2 mm_cT (mm_ow mi) k with | some (v, _) => some (pc + 3, L, .int v :: st, M) | none => none : Option mm_F) = some fr) (go : mm_Go p l e R s m args below meth c Q D dA b h0 n0 u0 fr) : W p l e R s m args below meth c H locs (M.2.1 - n0) (M.2.2 - u0) Q (F0 m pc ls (st.map (mm_up b h0))) := by
  obtain ⟨hx, hb, hml, hrt, hlk, hown, hts, hnx, hK, hini, hX, hbl, hh0⟩ := C
  split at hst
  · next v q hq =>
    cases hst
    exact lv_ldcw (rest := st.map (mm_up b h0)) hx hb hown (hts _ (mm_ct_ok hq)) hd (go H locs ls hW hS hl)
  · cases hst
theorem ms_ineg (C : mm_Cx D dA b h0 S p s m args meth c mi) (hW : mm_Wd D dA b h0 M H) (hS : va_S (mm_A h0) s.heap H locs) (hl : mm_lh b h0 ls L) (hs0 : s.heap.size + 1 = h0 + n0) (hn0 : n0 ≤ M.2.1) (hu0 : u0 ≤ M.2.2) {fr : mm_F} (hRc : fr.2.2.2.2.1 ≤ R.cells + n0) (hRs : fr.2.2.2.2.2 ≤ R.slots + u0) (hd : decode (mm_by mi) pc = .ok (.ineg, 1)) (hst : (match st with | .int x :: r => some (pc + 1, L, .int (-x) :: r, M) | _ => none : Option mm_F) = some fr) (go : mm_Go p l e R s m args below meth c Q D dA b h0 n0 u0 fr) : W p l e R s m args below meth c H locs (M.2.1 - n0) (M.2.2 - u0) Q (F0 m pc ls (st.map (mm_up b h0))) := by
  obtain ⟨hx, hb, hml, hrt, hlk, hown, hts, hnx, hK, hini, hX, hbl, hh0⟩ := C
  split at hst
  · next x r =>
    cases hst
    exact lv_ineg (x := x) (rest := r.map (mm_up b h0)) hx hb hd (go H locs ls hW hS hl)
  · cases hst
theorem ms_dup (C : mm_Cx D dA b h0 S p s m args meth c mi) (hW : mm_Wd D dA b h0 M H) (hS : va_S (mm_A h0) s.heap H locs) (hl : mm_lh b h0 ls L) (hs0 : s.heap.size + 1 = h0 + n0) (hn0 : n0 ≤ M.2.1) (hu0 : u0 ≤ M.2.2) {fr : mm_F} (hRc : fr.2.2.2.2.1 ≤ R.cells + n0) (hRs : fr.2.2.2.2.2 ≤ R.slots + u0) (hd : decode (mm_by mi) pc = .ok (.dup, 1)) (hst : (match st with | v :: r => if v.category = 1 then some (pc + 1, L, v :: v :: r, M) else none | _ => none : Option mm_F) = some fr) (go : mm_Go p l e R s m args below meth c Q D dA b h0 n0 u0 fr) : W p l e R s m args below meth c H locs (M.2.1 - n0) (M.2.2 - u0) Q (F0 m pc ls (st.map (mm_up b h0))) := by
  obtain ⟨hx, hb, hml, hrt, hlk, hown, hts, hnx, hK, hini, hX, hbl, hh0⟩ := C
  split at hst
  · next v r =>
    split at hst
    · next hv =>
      cases hst
      exact lv_dup (va := mm_up b h0 v) (rest := r.map (mm_up b h0)) hx hb hd (by rw [mm_up_cat]; exact hv) (go H locs ls hW hS hl)
    · cases hst
  · cases hst
theorem ms_dup2 (C : mm_Cx D dA b h0 S p s m args meth c mi) (hW : mm_Wd D dA b h0 M H) (hS : va_S (mm_A h0) s.heap H locs) (hl : mm_lh b h0 ls L) (hs0 : s.heap.size + 1 = h0 + n0) (hn0 : n0 ≤ M.2.1) (hu0 : u0 ≤ M.2.2) {fr : mm_F} (hRc : fr.2.2.2.2.1 ≤ R.cells + n0) (hRs : fr.2.2.2.2.2 ≤ R.slots + u0) (hd : decode (mm_by mi) pc = .ok (.dup2, 1)) (hst : (match st with | v :: w :: r => if v.category = 1 ∧ w.category = 1 then some (pc + 1, L, v :: w :: v :: w :: r, M) else none | _ => none : Option mm_F) = some fr) (go : mm_Go p l e R s m args below meth c Q D dA b h0 n0 u0 fr) : W p l e R s m args below meth c H locs (M.2.1 - n0) (M.2.2 - u0) Q (F0 m pc ls (st.map (mm_up b h0))) := by
  obtain ⟨hx, hb, hml, hrt, hlk, hown, hts, hnx, hK, hini, hX, hbl, hh0⟩ := C
  split at hst
  · next v v2 r =>
    split at hst
    · next hv =>
      cases hst
      exact lv_dup2_11 (va := mm_up b h0 v) (vb := mm_up b h0 v2) (rest := r.map (mm_up b h0)) hx hb hd (by rw [mm_up_cat]; exact hv.1) (by rw [mm_up_cat]; exact hv.2) (go H locs ls hW hS hl)
    · cases hst
  · cases hst
theorem ms_alen (C : mm_Cx D dA b h0 S p s m args meth c mi) (hW : mm_Wd D dA b h0 M H) (hS : va_S (mm_A h0) s.heap H locs) (hl : mm_lh b h0 ls L) (hs0 : s.heap.size + 1 = h0 + n0) (hn0 : n0 ≤ M.2.1) (hu0 : u0 ≤ M.2.2) {fr : mm_F} (hRc : fr.2.2.2.2.1 ≤ R.cells + n0) (hRs : fr.2.2.2.2.2 ≤ R.slots + u0) (hd : decode (mm_by mi) pc = .ok (.arraylength, 1)) (hst : mm_al S pc L st M = some fr) (go : mm_Go p l e R s m args below meth c Q D dA b h0 n0 u0 fr) : W p l e R s m args below meth c H locs (M.2.1 - n0) (M.2.2 - u0) Q (F0 m pc ls (st.map (mm_up b h0))) := by
  obtain ⟨hx, hb, hml, hrt, hlk, hown, hts, hnx, hK, hini, hX, hbl, hh0⟩ := C
  unfold mm_al at hst
  split at hst
  · next r =>
    cases hst
    exact va_slen (A := mm_A h0) (rest := r.map (mm_up b h0)) hx hb hX (Nat.lt_of_lt_of_le hbl hh0) (Nat.not_le.mpr hbl) hS hd (go H locs ls hW hS hl)
  · next a r =>
    split at hst
    · next t n z hM =>
      split at hst
      · next ht =>
        cases hst
        obtain ⟨q0, ha, hlt, had, hws⟩ := mm_ws_at hW hM
        obtain ⟨z', hz⟩ := mm_uE_a dA b h0 t n z
        rw [hz] at hws
        show W p l e R s m args below meth c H locs (M.2.1 - n0) (M.2.2 - u0) Q (F0 m pc ls (.ref (mm_ad b h0 (a + 1)) :: r.map (mm_up b h0)))
        rw [had]
        exact va_alen (rest := r.map (mm_up b h0)) hx hb hK hW.2.2.2 q0 t hws (mm_tys_at dA ht) rfl hd (go H locs ls hW hS hl)
      · cases hst
    · cases hst
  · cases hst
theorem ms_iaload (C : mm_Cx D dA b h0 S p s m args meth c mi) (hW : mm_Wd D dA b h0 M H) (hS : va_S (mm_A h0) s.heap H locs) (hl : mm_lh b h0 ls L) (hs0 : s.heap.size + 1 = h0 + n0) (hn0 : n0 ≤ M.2.1) (hu0 : u0 ≤ M.2.2) {fr : mm_F} (hRc : fr.2.2.2.2.1 ≤ R.cells + n0) (hRs : fr.2.2.2.2.2 ≤ R.slots + u0) (hd : decode (mm_by mi) pc = .ok (.iaload, 1)) (hst : mm_ia 0 S pc L st M = some fr) (go : mm_Go p l e R s m args below meth c Q D dA b h0 n0 u0 fr) : W p l e R s m args below meth c H locs (M.2.1 - n0) (M.2.2 - u0) Q (F0 m pc ls (st.map (mm_up b h0))) := by
  obtain ⟨hx, hb, hml, hrt, hlk, hown, hts, hnx, hK, hini, hX, hbl, hh0⟩ := C
  unfold mm_ia at hst
  split at hst
  · next i r =>
    split at hst
    · next hc =>
      cases hst
      exact va_sld (A := mm_A h0) (rest := r.map (mm_up b h0)) hx hb hX (Nat.lt_of_lt_of_le hbl hh0) (Nat.not_le.mpr hbl) hS hc.2 hd (go H locs ls hW hS hl)
    · cases hst
  · next i a r =>
    split at hst
    · next t n f hM =>
      split at hst
      · next hc =>
        cases hst
        obtain ⟨rfl, hin⟩ := hc
        obtain ⟨q0, ha, hlt, had, hws⟩ := mm_ws_at hW hM
        rw [mm_uE_i] at hws
        show W p l e R s m args below meth c H locs (M.2.1 - n0) (M.2.2 - u0) Q (F0 m pc ls (.int i :: .ref (mm_ad b h0 (a + 1)) :: r.map (mm_up b h0)))
        rw [had]
        exact va_iald (rest := r.map (mm_up b h0)) hx hb hK hW.2.2.2 q0 0 hws (mm_tys_at dA (by decide)) hin hd (go H locs ls hW hS hl)
      · cases hst
    · cases hst
  · cases hst
theorem ms_baload (C : mm_Cx D dA b h0 S p s m args meth c mi) (hW : mm_Wd D dA b h0 M H) (hS : va_S (mm_A h0) s.heap H locs) (hl : mm_lh b h0 ls L) (hs0 : s.heap.size + 1 = h0 + n0) (hn0 : n0 ≤ M.2.1) (hu0 : u0 ≤ M.2.2) {fr : mm_F} (hRc : fr.2.2.2.2.1 ≤ R.cells + n0) (hRs : fr.2.2.2.2.2 ≤ R.slots + u0) (hd : decode (mm_by mi) pc = .ok (.baload, 1)) (hst : mm_ia 1 S pc L st M = some fr) (go : mm_Go p l e R s m args below meth c Q D dA b h0 n0 u0 fr) : W p l e R s m args below meth c H locs (M.2.1 - n0) (M.2.2 - u0) Q (F0 m pc ls (st.map (mm_up b h0))) := by
  obtain ⟨hx, hb, hml, hrt, hlk, hown, hts, hnx, hK, hini, hX, hbl, hh0⟩ := C
  unfold mm_ia at hst
  split at hst
  · next i r =>
    split at hst
    · next hc =>
      exact absurd hc.1 (by decide)
    · cases hst
  · next i a r =>
    split at hst
    · next t n f hM =>
      split at hst
      · next hc =>
        cases hst
        obtain ⟨rfl, hin⟩ := hc
        obtain ⟨q0, ha, hlt, had, hws⟩ := mm_ws_at hW hM
        rw [mm_uE_i] at hws
        show W p l e R s m args below meth c H locs (M.2.1 - n0) (M.2.2 - u0) Q (F0 m pc ls (.int i :: .ref (mm_ad b h0 (a + 1)) :: r.map (mm_up b h0)))
        rw [had]
        exact va_zald (rest := r.map (mm_up b h0)) hx hb hK hW.2.2.2 q0 1 hws (mm_tys_at dA (by decide)) hin hd (go H locs ls hW hS hl)
      · cases hst
    · cases hst
  · cases hst
theorem ms_aaload (C : mm_Cx D dA b h0 S p s m args meth c mi) (hW : mm_Wd D dA b h0 M H) (hS : va_S (mm_A h0) s.heap H locs) (hl : mm_lh b h0 ls L) (hs0 : s.heap.size + 1 = h0 + n0) (hn0 : n0 ≤ M.2.1) (hu0 : u0 ≤ M.2.2) {fr : mm_F} (hRc : fr.2.2.2.2.1 ≤ R.cells + n0) (hRs : fr.2.2.2.2.2 ≤ R.slots + u0) (hd : decode (mm_by mi) pc = .ok (.aaload, 1)) (hst : mm_aa pc L st M = some fr) (go : mm_Go p l e R s m args below meth c Q D dA b h0 n0 u0 fr) : W p l e R s m args below meth c H locs (M.2.1 - n0) (M.2.2 - u0) Q (F0 m pc ls (st.map (mm_up b h0))) := by
  obtain ⟨hx, hb, hml, hrt, hlk, hown, hts, hnx, hK, hini, hX, hbl, hh0⟩ := C
  unfold mm_aa at hst
  split at hst
  · next i a r =>
    split at hst
    · next t n f hM =>
      split at hst
      · next hc =>
        split at hst
        · next q hq =>
          cases hst
          obtain ⟨h1, hin⟩ := hc
          obtain ⟨ci, hci⟩ := Option.isSome_iff_exists.mp h1
          obtain ⟨ht, hty, -⟩ := mm_tc_ty hci
          obtain ⟨q0, ha, hlt, had, hws⟩ := mm_ws_at hW hM
          rw [mm_uE_q] at hws
          have htt := mm_tys_at dA ht
          rw [hty] at htt
          show W p l e R s m args below meth c H locs (M.2.1 - n0) (M.2.2 - u0) Q (F0 m pc ls (.int i :: .ref (mm_ad b h0 a) :: r.map (mm_up b h0)))
          rw [had]
          refine va_aldq (rest := r.map (mm_up b h0)) hx hb hK hW.2.2.2 q0 t hws htt hin hd ?_
          rw [hq]
          exact go H locs ls hW hS hl
        · cases hst
      · cases hst
    · cases hst
  · cases hst
theorem ms_iastore (C : mm_Cx D dA b h0 S p s m args meth c mi) (hW : mm_Wd D dA b h0 M H) (hS : va_S (mm_A h0) s.heap H locs) (hl : mm_lh b h0 ls L) (hs0 : s.heap.size + 1 = h0 + n0) (hn0 : n0 ≤ M.2.1) (hu0 : u0 ≤ M.2.2) {fr : mm_F} (hRc : fr.2.2.2.2.1 ≤ R.cells + n0) (hRs : fr.2.2.2.2.2 ≤ R.slots + u0) (hd : decode (mm_by mi) pc = .ok (.iastore, 1)) (hst : mm_is 0 pc L st M = some fr) (go : mm_Go p l e R s m args below meth c Q D dA b h0 n0 u0 fr) : W p l e R s m args below meth c H locs (M.2.1 - n0) (M.2.2 - u0) Q (F0 m pc ls (st.map (mm_up b h0))) := by
  obtain ⟨hx, hb, hml, hrt, hlk, hown, hts, hnx, hK, hini, hX, hbl, hh0⟩ := C
  unfold mm_is at hst
  split at hst
  · next x i a r =>
    split at hst
    · next t n f hM =>
      split at hst
      · next hc =>
        cases hst
        obtain ⟨⟨rfl, hb1⟩, hin⟩ := hc
        obtain ⟨q0, ha, hlt, had, hws⟩ := mm_ws_at hW hM
        rw [mm_uE_i] at hws
        show W p l e R s m args below meth c H locs (M.2.1 - n0) (M.2.2 - u0) Q (F0 m pc ls (.int x :: .int i :: .ref (mm_ad b h0 a) :: r.map (mm_up b h0)))
        rw [had]
        refine va_iast (A := mm_A h0) (H0 := H) (rest := r.map (mm_up b h0)) hx hb hK hW.2.2.2 (mm_ws_D dA b h0 M) (mm_Sself hS) q0 0 hws (mm_tys_at dA (by decide)) hin hd (fun H1 locs1 hP1 hD1 hS1 => ?_)
        exact mm_afterput hW hS hl hs0 hn0 hM ha (c1 := .inl (0, n, .inl (upd f i.toNatClampNeg x))) hP1 hS1 go
      · cases hst
    · cases hst
  · cases hst
theorem ms_bastore (C : mm_Cx D dA b h0 S p s m args meth c mi) (hW : mm_Wd D dA b h0 M H) (hS : va_S (mm_A h0) s.heap H locs) (hl : mm_lh b h0 ls L) (hs0 : s.heap.size + 1 = h0 + n0) (hn0 : n0 ≤ M.2.1) (hu0 : u0 ≤ M.2.2) {fr : mm_F} (hRc : fr.2.2.2.2.1 ≤ R.cells + n0) (hRs : fr.2.2.2.2.2 ≤ R.slots + u0) (hd : decode (mm_by mi) pc = .ok (.bastore, 1)) (hst : mm_is 1 pc L st M = some fr) (go : mm_Go p l e R s m args below meth c Q D dA b h0 n0 u0 fr) : W p l e R s m args below meth c H locs (M.2.1 - n0) (M.2.2 - u0) Q (F0 m pc ls (st.map (mm_up b h0))) := by
  obtain ⟨hx, hb, hml, hrt, hlk, hown, hts, hnx, hK, hini, hX, hbl, hh0⟩ := C
  unfold mm_is at hst
  split at hst
  · next x i a r =>
    split at hst
    · next t n f hM =>
      split at hst
      · next hc =>
        cases hst
        obtain ⟨⟨rfl, hb1⟩, hin⟩ := hc
        obtain ⟨q0, ha, hlt, had, hws⟩ := mm_ws_at hW hM
        rw [mm_uE_i] at hws
        show W p l e R s m args below meth c H locs (M.2.1 - n0) (M.2.2 - u0) Q (F0 m pc ls (.int x :: .int i :: .ref (mm_ad b h0 a) :: r.map (mm_up b h0)))
        rw [had]
        refine va_zast (A := mm_A h0) (H0 := H) (rest := r.map (mm_up b h0)) hx hb hK hW.2.2.2 (mm_ws_D dA b h0 M) (mm_Sself hS) q0 1 hws (mm_tys_at dA (by decide)) hin hd (fun H1 locs1 hP1 hD1 hS1 => ?_)
        have hx1 : vp_nar .boolean x = x := by
          rcases hb1 rfl with rfl | rfl
          · rfl
          · rfl
        rw [hx1] at hP1
        exact mm_afterput hW hS hl hs0 hn0 hM ha (c1 := .inl (1, n, .inl (upd f i.toNatClampNeg x))) hP1 hS1 go
      · cases hst
    · cases hst
  · cases hst
theorem ms_aastore (C : mm_Cx D dA b h0 S p s m args meth c mi) (hW : mm_Wd D dA b h0 M H) (hS : va_S (mm_A h0) s.heap H locs) (hl : mm_lh b h0 ls L) (hs0 : s.heap.size + 1 = h0 + n0) (hn0 : n0 ≤ M.2.1) (hu0 : u0 ≤ M.2.2) {fr : mm_F} (hRc : fr.2.2.2.2.1 ≤ R.cells + n0) (hRs : fr.2.2.2.2.2 ≤ R.slots + u0) (hd : decode (mm_by mi) pc = .ok (.aastore, 1)) (hst : mm_as pc L st M = some fr) (go : mm_Go p l e R s m args below meth c Q D dA b h0 n0 u0 fr) : W p l e R s m args below meth c H locs (M.2.1 - n0) (M.2.2 - u0) Q (F0 m pc ls (st.map (mm_up b h0))) := by
  obtain ⟨hx, hb, hml, hrt, hlk, hown, hts, hnx, hK, hini, hX, hbl, hh0⟩ := C
  unfold mm_as at hst
  split at hst
  · next v i a r =>
    split at hst
    · next t n f ci vs hM hV =>
      split at hst
      · next hc =>
        cases hst
        obtain ⟨hci, hin⟩ := hc
        obtain ⟨ht, hty, hc13⟩ := mm_tc_ty hci
        obtain ⟨q0, ha, hlt, had, hws⟩ := mm_ws_at hW hM
        obtain ⟨q1, ha1, hlt1, had1, hws1⟩ := mm_ws_at hW hV
        rw [mm_uE_q] at hws
        rw [mm_uE_o] at hws1
        have htt := mm_tys_at dA ht
        rw [hty] at htt
        have hcl := (mm_cl_ok hc13).1
        show W p l e R s m args below meth c H locs (M.2.1 - n0) (M.2.2 - u0) Q (F0 m pc ls (.ref (mm_ad b h0 v) :: .int i :: .ref (mm_ad b h0 a) :: r.map (mm_up b h0)))
        rw [had, had1]
        refine va_astq (A := mm_A h0) (H0 := H) (rest := r.map (mm_up b h0)) (r := (mm_cn ci, mm_T ci, mm_N ci)) hx hb hK hW.2.2.2 (mm_ws_D dA b h0 M) (mm_Sself hS) q0 t q1 ci hws htt hws1 hcl hin hd (fun H1 locs1 hP1 hD1 hS1 => ?_)
        refine mm_afterput hW hS hl hs0 hn0 hM ha (c1 := .inl (t, n, .inr (.inr (.inr (.inr (va_up f i.toNatClampNeg (some v))))))) ?_ hS1 go
        rw [mm_uE_q]
        have e1 : (fun j => (va_up f i.toNatClampNeg (some v) j).map (mm_ad b h0)) = va_up (fun j => (f j).map (mm_ad b h0)) i.toNatClampNeg (some (h0 + q1)) := by
          funext j
          unfold va_up
          by_cases hj : j = i.toNatClampNeg
          · rw [if_pos hj, if_pos hj, ← had1]
            rfl
          · rw [if_neg hj, if_neg hj]
        rw [e1]
        exact hP1
      · cases hst
    · cases hst
  · cases hst
theorem ms_getf (C : mm_Cx D dA b h0 S p s m args meth c mi) (hW : mm_Wd D dA b h0 M H) (hS : va_S (mm_A h0) s.heap H locs) (hl : mm_lh b h0 ls L) (hs0 : s.heap.size + 1 = h0 + n0) (hn0 : n0 ≤ M.2.1) (hu0 : u0 ≤ M.2.2) {fr : mm_F} (hRc : fr.2.2.2.2.1 ≤ R.cells + n0) (hRs : fr.2.2.2.2.2 ≤ R.slots + u0) {k : Nat} (hd : decode (mm_by mi) pc = .ok (.getfield k, 3)) (hst : mm_gf (mm_ow mi) k pc L st M = some fr) (go : mm_Go p l e R s m args below meth c Q D dA b h0 n0 u0 fr) : W p l e R s m args below meth c H locs (M.2.1 - n0) (M.2.2 - u0) Q (F0 m pc ls (st.map (mm_up b h0))) := by
  obtain ⟨hx, hb, hml, hrt, hlk, hown, hts, hnx, hK, hini, hX, hbl, hh0⟩ := C
  unfold mm_gf at hst
  split at hst
  · next a r =>
    split at hst
    · next ci j q c' fs hq hM =>
      split at hst
      · next hc =>
        split at hst
        · next v hv =>
          cases hst
          subst hc
          obtain ⟨h1, h2, h3, h4⟩ := mm_ft_ok hq
          obtain ⟨g1, g2, g3, g4, -⟩ := mm_cl_ok h3
          obtain ⟨q0, ha, hlt, had, hws⟩ := mm_ws_at hW hM
          rw [mm_uE_o] at hws
          show W p l e R s m args below meth c H locs (M.2.1 - n0) (M.2.2 - u0) Q (F0 m pc ls (.ref (mm_ad b h0 a) :: r.map (mm_up b h0)))
          rw [had]
          exact va_get (rest := r.map (mm_up b h0)) (v := mm_up b h0 v) hx hb hts g2 hown hK hW.2.2.2 q0 hws g1 j h2 (hts _ h1) (fun x hx => by rw [h4] at hx; exact hx) (by rw [List.getElem?_map, hv]; rfl) hd (go H locs ls hW hS hl)
        · cases hst
      · cases hst
    · cases hst
  · cases hst
theorem ms_putf (C : mm_Cx D dA b h0 S p s m args meth c mi) (hW : mm_Wd D dA b h0 M H) (hS : va_S (mm_A h0) s.heap H locs) (hl : mm_lh b h0 ls L) (hs0 : s.heap.size + 1 = h0 + n0) (hn0 : n0 ≤ M.2.1) (hu0 : u0 ≤ M.2.2) {fr : mm_F} (hRc : fr.2.2.2.2.1 ≤ R.cells + n0) (hRs : fr.2.2.2.2.2 ≤ R.slots + u0) {k : Nat} (hd : decode (mm_by mi) pc = .ok (.putfield k, 3)) (hst : mm_pf (mm_ow mi) k (mm_in mi) pc L st M = some fr) (go : mm_Go p l e R s m args below meth c Q D dA b h0 n0 u0 fr) : W p l e R s m args below meth c H locs (M.2.1 - n0) (M.2.2 - u0) Q (F0 m pc ls (st.map (mm_up b h0))) := by
  obtain ⟨hx, hb, hml, hrt, hlk, hown, hts, hnx, hK, hini, hX, hbl, hh0⟩ := C
  unfold mm_pf at hst
  split at hst
  · next v a r =>
    split at hst
    · next ci j q c' fs hq hM =>
      split at hst
      · next hc =>
        cases hst
        obtain ⟨⟨hc1, hj⟩, hfit, hfin⟩ := hc
        subst hc1
        obtain ⟨h1, h2, h3, h4⟩ := mm_ft_ok hq
        obtain ⟨g1, g2, g3, g4, -⟩ := mm_cl_ok h3
        obtain ⟨q0, ha, hlt, had, hws⟩ := mm_ws_at hW hM
        obtain ⟨f1, f2⟩ := mm_fit_ok b h0 hfit
        rw [mm_uE_o] at hws
        show W p l e R s m args below meth c H locs (M.2.1 - n0) (M.2.2 - u0) Q (F0 m pc ls (mm_up b h0 v :: .ref (mm_ad b h0 a) :: r.map (mm_up b h0)))
        rw [had]
        have kk : ∀ (H1 : Heap) (locs1 : List Loc), va_P D vwCl ((mm_ws dA b h0 M).set q0 (h0 + q0, .inr (c', (fs.map (mm_up b h0)).set j (mm_up b h0 v)))) H1 → va_D (mm_A h0) ((mm_ws dA b h0 M).set q0 (h0 + q0, .inr (c', (fs.map (mm_up b h0)).set j (mm_up b h0 v)))) → va_S (mm_A h0) H H1 locs1 → W p l e R s m args below meth c H1 locs1 (M.2.1 - n0) (M.2.2 - u0) Q (F0 m (pc + 3) ls (r.map (mm_up b h0))) := by
          intro H1 locs1 hP1 hD1 hS1
          refine mm_afterput hW hS hl hs0 hn0 hM ha (c1 := .inr (c', fs.set j v)) ?_ hS1 go
          rw [mm_uE_o, List.map_set]
          exact hP1
        by_cases hf : (mm_T c' j).2.2.2 = true
        · obtain ⟨i1, i2⟩ := hfin hf
          exact va_putF (A := mm_A h0) (H0 := H) (rest := r.map (mm_up b h0)) hx hb hts g2 (mm_fy c') g4 g3 hown hK hW.2.2.2 (mm_ws_D dA b h0 M) (mm_Sself hS) q0 hws g1 j h2 (hts _ h1) (fun x hx => by rw [h4] at hx; exact hx) hf (hini i1) (by rw [h4, i2]) (g4 j h2) f1 f2 (by rw [List.length_map]; exact hj) hd kk
        · exact va_put (A := mm_A h0) (H0 := H) (rest := r.map (mm_up b h0)) hx hb hts g2 (mm_fy c') g4 g3 hown hK hW.2.2.2 (mm_ws_D dA b h0 M) (mm_Sself hS) q0 hws g1 j h2 (hts _ h1) (fun x hx => by rw [h4] at hx; exact hx) (by simpa using hf) (g4 j h2) f1 f2 (by rw [List.length_map]; exact hj) hd kk
      · cases hst
    · cases hst
  · cases hst
theorem ms_new (C : mm_Cx D dA b h0 S p s m args meth c mi) (hW : mm_Wd D dA b h0 M H) (hS : va_S (mm_A h0) s.heap H locs) (hl : mm_lh b h0 ls L) (hs0 : s.heap.size + 1 = h0 + n0) (hn0 : n0 ≤ M.2.1) (hu0 : u0 ≤ M.2.2) {fr : mm_F} (hRc : fr.2.2.2.2.1 ≤ R.cells + n0) (hRs : fr.2.2.2.2.2 ≤ R.slots + u0) {k : Nat} (hd : decode (mm_by mi) pc = .ok (.new k, 3)) (hst : mm_nw (mm_ow mi) k pc L st M = some fr) (go : mm_Go p l e R s m args below meth c Q D dA b h0 n0 u0 fr) : W p l e R s m args below meth c H locs (M.2.1 - n0) (M.2.2 - u0) Q (F0 m pc ls (st.map (mm_up b h0))) := by
  obtain ⟨hx, hb, hml, hrt, hlk, hown, hts, hnx, hK, hini, hX, hbl, hh0⟩ := C
  unfold mm_nw at hst
  split at hst
  · next ci q hq =>
    cases hst
    obtain ⟨h1, h3⟩ := mm_nt_ok hq
    obtain ⟨g1, g2, g3, g4, g5, g6, g7, g8⟩ := mm_cl_ok h3
    have r1 : M.2.1 + 1 ≤ R.cells + n0 := hRc
    have r2 : M.2.2 + mm_N ci ≤ R.slots + u0 := hRs
    refine va_new (A := mm_A h0) (H0 := H) (ci := ci) (fs := mm_df ci) (rest := st.map (mm_up b h0)) hx hb hts g2 (mm_fy ci) g4 hown (hts _ h1) (hts _ g7) (hts _ g8) hK hW.2.2.2 (mm_ws_D dA b h0 M) (mm_Sself hS) (fun q hq => Nat.le_trans hh0 (Nat.le_trans hS.1 hq)) g1 g5 (by omega) (by omega) hd (fun q H1 hP1 hD1 hS1 => ?_)
    refine mm_afternew hW hS hl hs0 hn0 hu0 ?_ hP1 hD1 hS1 go
    rw [mm_uE_o]
    congr 2
    exact (mm_df_up b h0 ci h3).symm
  · cases hst
theorem ms_newi (C : mm_Cx D dA b h0 S p s m args meth c mi) (hW : mm_Wd D dA b h0 M H) (hS : va_S (mm_A h0) s.heap H locs) (hl : mm_lh b h0 ls L) (hs0 : s.heap.size + 1 = h0 + n0) (hn0 : n0 ≤ M.2.1) (hu0 : u0 ≤ M.2.2) {fr : mm_F} (hRc : fr.2.2.2.2.1 ≤ R.cells + n0) (hRs : fr.2.2.2.2.2 ≤ R.slots + u0) (hd : decode (mm_by mi) pc = .ok (.newarray .int, 2)) (hst : mm_na 0 pc L st M = some fr) (go : mm_Go p l e R s m args below meth c Q D dA b h0 n0 u0 fr) : W p l e R s m args below meth c H locs (M.2.1 - n0) (M.2.2 - u0) Q (F0 m pc ls (st.map (mm_up b h0))) := by
  obtain ⟨hx, hb, hml, hrt, hlk, hown, hts, hnx, hK, hini, hX, hbl, hh0⟩ := C
  unfold mm_na at hst
  split at hst
  · next n r =>
    split at hst
    · cases hst
    · next hc =>
      cases hst
      have r1 : M.2.1 + 1 ≤ R.cells + n0 := hRc
      have r2 : M.2.2 + n.toNatClampNeg ≤ R.slots + u0 := hRs
      have h65 : n.toNatClampNeg ≤ 65536 := Nat.not_lt.mp fun q => hc (Or.inr q)
      refine va_newa (atype := .int) (A := mm_A h0) (H0 := H) (a0 := (n.toNatClampNeg, .inl (fun _ => 0))) (ty := .int) (rest := r.map (mm_up b h0)) hx hb (hts _ mm_ac0) rfl hK hW.2.2.2 (mm_ws_D dA b h0 M) (mm_Sself hS) (fun q hq => Nat.le_trans hh0 (Nat.le_trans hS.1 hq)) (fun _ => rfl) (fun q => hc (Or.inl q)) rfl (Nat.le_trans (Nat.mul_le_mul_right _ h65) (by decide)) (by omega) (by omega) hd (fun q cA H1 hK1 hP1 hD1 hS1 => ?_)
      have hA1 := (hK1.2 4 (cA, .int) rfl).2
      have hA2 := (hK.2 0 (dA 0, .int) rfl).2
      have hcA : cA = dA 0 := Option.some.inj (hA1.symm.trans hA2)
      refine mm_afternew hW hS hl hs0 hn0 hu0 ?_ hP1 hD1 hS1 go
      rw [hcA]
      rfl
  · cases hst
theorem ms_newz (C : mm_Cx D dA b h0 S p s m args meth c mi) (hW : mm_Wd D dA b h0 M H) (hS : va_S (mm_A h0) s.heap H locs) (hl : mm_lh b h0 ls L) (hs0 : s.heap.size + 1 = h0 + n0) (hn0 : n0 ≤ M.2.1) (hu0 : u0 ≤ M.2.2) {fr : mm_F} (hRc : fr.2.2.2.2.1 ≤ R.cells + n0) (hRs : fr.2.2.2.2.2 ≤ R.slots + u0) (hd : decode (mm_by mi) pc = .ok (.newarray .boolean, 2)) (hst : mm_na 1 pc L st M = some fr) (go : mm_Go p l e R s m args below meth c Q D dA b h0 n0 u0 fr) : W p l e R s m args below meth c H locs (M.2.1 - n0) (M.2.2 - u0) Q (F0 m pc ls (st.map (mm_up b h0))) := by
  obtain ⟨hx, hb, hml, hrt, hlk, hown, hts, hnx, hK, hini, hX, hbl, hh0⟩ := C
  unfold mm_na at hst
  split at hst
  · next n r =>
    split at hst
    · cases hst
    · next hc =>
      cases hst
      have r1 : M.2.1 + 1 ≤ R.cells + n0 := hRc
      have r2 : M.2.2 + n.toNatClampNeg ≤ R.slots + u0 := hRs
      have h65 : n.toNatClampNeg ≤ 65536 := Nat.not_lt.mp fun q => hc (Or.inr q)
      refine va_newa (atype := .boolean) (A := mm_A h0) (H0 := H) (a0 := (n.toNatClampNeg, .inl (fun _ => 0))) (ty := .boolean) (rest := r.map (mm_up b h0)) hx hb (hts _ mm_ac1) rfl hK hW.2.2.2 (mm_ws_D dA b h0 M) (mm_Sself hS) (fun q hq => Nat.le_trans hh0 (Nat.le_trans hS.1 hq)) (fun _ => rfl) (fun q => hc (Or.inl q)) rfl (Nat.le_trans (Nat.mul_le_mul_right _ h65) (by decide)) (by omega) (by omega) hd (fun q cA H1 hK1 hP1 hD1 hS1 => ?_)
      have hA1 := (hK1.2 4 (cA, .boolean) rfl).2
      have hA2 := (hK.2 1 (dA 1, .boolean) rfl).2
      have hcA : cA = dA 1 := Option.some.inj (hA1.symm.trans hA2)
      refine mm_afternew hW hS hl hs0 hn0 hu0 ?_ hP1 hD1 hS1 go
      rw [hcA]
      rfl
  · cases hst
theorem ms_anew (C : mm_Cx D dA b h0 S p s m args meth c mi) (hW : mm_Wd D dA b h0 M H) (hS : va_S (mm_A h0) s.heap H locs) (hl : mm_lh b h0 ls L) (hs0 : s.heap.size + 1 = h0 + n0) (hn0 : n0 ≤ M.2.1) (hu0 : u0 ≤ M.2.2) {fr : mm_F} (hRc : fr.2.2.2.2.1 ≤ R.cells + n0) (hRs : fr.2.2.2.2.2 ≤ R.slots + u0) {k : Nat} (hd : decode (mm_by mi) pc = .ok (.anewarray k, 3)) (hst : mm_an (mm_ow mi) k pc L st M = some fr) (go : mm_Go p l e R s m args below meth c Q D dA b h0 n0 u0 fr) : W p l e R s m args below meth c H locs (M.2.1 - n0) (M.2.2 - u0) Q (F0 m pc ls (st.map (mm_up b h0))) := by
  obtain ⟨hx, hb, hml, hrt, hlk, hown, hts, hnx, hK, hini, hX, hbl, hh0⟩ := C
  unfold mm_an at hst
  split at hst
  · next n r =>
    split at hst
    · next t q1 q2 hq =>
      split at hst
      · cases hst
      · next hc =>
        cases hst
        obtain ⟨ci, hci, h1, h2⟩ := mm_at_ok hq
        obtain ⟨ht, hty, hc13⟩ := mm_tc_ty hci
        have r1 : M.2.1 + 1 ≤ R.cells + n0 := hRc
        have r2 : M.2.2 + n.toNatClampNeg ≤ R.slots + u0 := hRs
        have h65 : n.toNatClampNeg ≤ 65536 := Nat.not_lt.mp fun q => hc (Or.inr q)
        refine va_newq (A := mm_A h0) (H0 := H) (rest := r.map (mm_up b h0)) hx hb hown (hts _ h1) (hnx.2 _ h2) hK hW.2.2.2 (mm_ws_D dA b h0 M) (mm_Sself hS) (fun q hq => Nat.le_trans hh0 (Nat.le_trans hS.1 hq)) (fun q => hc (Or.inl q)) rfl (Nat.le_trans (Nat.mul_le_mul_right _ h65) (by decide)) (by omega) (by omega) hd (fun q cA H1 hK1 hP1 hD1 hS1 => ?_)
        have htt := mm_tys_at dA ht
        rw [hty] at htt
        obtain ⟨-, -, -, -, -, hA1⟩ := (hK1.2 4 (cA, .object (mm_cn ci)) rfl).2
        obtain ⟨-, -, -, -, -, hA2⟩ := (hK.2 t (dA t, .object (mm_cn ci)) htt).2
        have hcA : cA = dA t := Option.some.inj (hA1.symm.trans hA2)
        refine mm_afternew hW hS hl hs0 hn0 hu0 ?_ hP1 hD1 hS1 go
        rw [hcA]
        rfl
    · cases hst
  · cases hst
set_option maxHeartbeats 4000000 in
theorem mm_step (C : mm_Cx D dA b h0 S p s m args meth c mi) (hW : mm_Wd D dA b h0 M H) (hS : va_S (mm_A h0) s.heap H locs) (hl : mm_lh b h0 ls L) (hs0 : s.heap.size + 1 = h0 + n0) (hn0 : n0 ≤ M.2.1) (hu0 : u0 ≤ M.2.2) {fr : mm_F} (hRc : fr.2.2.2.2.1 ≤ R.cells + n0) (hRs : fr.2.2.2.2.2 ≤ R.slots + u0) {i : Instr} {len : Nat} (hd : decode (mm_by mi) pc = .ok (i, len)) (hln : mm_ln i len = true) (hst : mm_st (mm_ow mi) (mm_in mi) S i pc L st M = some fr) (go : mm_Go p l e R s m args below meth c Q D dA b h0 n0 u0 fr) : W p l e R s m args below meth c H locs (M.2.1 - n0) (M.2.2 - u0) Q (F0 m pc ls (st.map (mm_up b h0))) := by
  cases i with
  | iadd =>
    have hn := eq_of_beq (show (len == 1) = true from hln); subst hn; exact ms_iadd C hW hS hl hs0 hn0 hu0 hRc hRs hd hst go
  | isub =>
    have hn := eq_of_beq (show (len == 1) = true from hln); subst hn; exact ms_isub C hW hS hl hs0 hn0 hu0 hRc hRs hd hst go
  | imul =>
    have hn := eq_of_beq (show (len == 1) = true from hln); subst hn; exact ms_imul C hW hS hl hs0 hn0 hu0 hRc hRs hd hst go
  | iand =>
    have hn := eq_of_beq (show (len == 1) = true from hln); subst hn; exact ms_iand C hW hS hl hs0 hn0 hu0 hRc hRs hd hst go
  | ior =>
    have hn := eq_of_beq (show (len == 1) = true from hln); subst hn; exact ms_ior C hW hS hl hs0 hn0 hu0 hRc hRs hd hst go
  | ixor =>
    have hn := eq_of_beq (show (len == 1) = true from hln); subst hn; exact ms_ixor C hW hS hl hs0 hn0 hu0 hRc hRs hd hst go
  | ishl =>
    have hn := eq_of_beq (show (len == 1) = true from hln); subst hn; exact ms_ishl C hW hS hl hs0 hn0 hu0 hRc hRs hd hst go
  | ishr =>
    have hn := eq_of_beq (show (len == 1) = true from hln); subst hn; exact ms_ishr C hW hS hl hs0 hn0 hu0 hRc hRs hd hst go
  | iushr =>
    have hn := eq_of_beq (show (len == 1) = true from hln); subst hn; exact ms_iushr C hW hS hl hs0 hn0 hu0 hRc hRs hd hst go
  | idiv =>
    have hn := eq_of_beq (show (len == 1) = true from hln); subst hn; exact ms_idiv C hW hS hl hs0 hn0 hu0 hRc hRs hd hst go
  | irem =>
    have hn := eq_of_beq (show (len == 1) = true from hln); subst hn; exact ms_irem C hW hS hl hs0 hn0 hu0 hRc hRs hd hst go
  | ineg =>
    have hn := eq_of_beq (show (len == 1) = true from hln); subst hn; exact ms_ineg C hW hS hl hs0 hn0 hu0 hRc hRs hd hst go
  | dup =>
    have hn := eq_of_beq (show (len == 1) = true from hln); subst hn; exact ms_dup C hW hS hl hs0 hn0 hu0 hRc hRs hd hst go
  | dup2 =>
    have hn := eq_of_beq (show (len == 1) = true from hln); subst hn; exact ms_dup2 C hW hS hl hs0 hn0 hu0 hRc hRs hd hst go
  | iconst n =>
    have hn := eq_of_beq (show (len == 1) = true from hln); subst hn; exact ms_iconst C hW hS hl hs0 hn0 hu0 hRc hRs hd hst go
  | bipush n =>
    have hn := eq_of_beq (show (len == 2) = true from hln); subst hn; exact ms_bipush C hW hS hl hs0 hn0 hu0 hRc hRs hd hst go
  | sipush n =>
    have hn := eq_of_beq (show (len == 3) = true from hln); subst hn; exact ms_sipush C hW hS hl hs0 hn0 hu0 hRc hRs hd hst go
  | ldc k =>
    have hn := eq_of_beq (show (len == 2) = true from hln); subst hn; exact ms_ldc C hW hS hl hs0 hn0 hu0 hRc hRs hd hst go
  | ldc_w k =>
    have hn := eq_of_beq (show (len == 3) = true from hln); subst hn; exact ms_ldc_w C hW hS hl hs0 hn0 hu0 hRc hRs hd hst go
  | iload_n k =>
    have hn := eq_of_beq (show (len == 1) = true from hln); subst hn; exact ms_iload_n C hW hS hl hs0 hn0 hu0 hRc hRs hd hst go
  | iload k =>
    have hn := eq_of_beq (show (len == 2) = true from hln); subst hn; exact ms_iload C hW hS hl hs0 hn0 hu0 hRc hRs hd hst go
  | aload_n k =>
    have hn := eq_of_beq (show (len == 1) = true from hln); subst hn; exact ms_aload_n C hW hS hl hs0 hn0 hu0 hRc hRs hd hst go
  | aload k =>
    have hn := eq_of_beq (show (len == 2) = true from hln); subst hn; exact ms_aload C hW hS hl hs0 hn0 hu0 hRc hRs hd hst go
  | istore_n k =>
    have hn := eq_of_beq (show (len == 1) = true from hln); subst hn; exact ms_istore_n C hW hS hl hs0 hn0 hu0 hRc hRs hd hst go
  | istore k =>
    have hn := eq_of_beq (show (len == 2) = true from hln); subst hn; exact ms_istore C hW hS hl hs0 hn0 hu0 hRc hRs hd hst go
  | astore_n k =>
    have hn := eq_of_beq (show (len == 1) = true from hln); subst hn; exact ms_astore_n C hW hS hl hs0 hn0 hu0 hRc hRs hd hst go
  | astore k =>
    have hn := eq_of_beq (show (len == 2) = true from hln); subst hn; exact ms_astore C hW hS hl hs0 hn0 hu0 hRc hRs hd hst go
  | iinc k n =>
    have hn := eq_of_beq (show (len == 3) = true from hln); subst hn; exact ms_iinc C hW hS hl hs0 hn0 hu0 hRc hRs hd hst go
  | goto off =>
    have hn := eq_of_beq (show (len == 3) = true from hln); subst hn; exact ms_goto C hW hS hl hs0 hn0 hu0 hRc hRs hd hst go
  | arraylength =>
    have hn := eq_of_beq (show (len == 1) = true from hln); subst hn; exact ms_alen C hW hS hl hs0 hn0 hu0 hRc hRs hd hst go
  | iaload =>
    have hn := eq_of_beq (show (len == 1) = true from hln); subst hn; exact ms_iaload C hW hS hl hs0 hn0 hu0 hRc hRs hd hst go
  | baload =>
    have hn := eq_of_beq (show (len == 1) = true from hln); subst hn; exact ms_baload C hW hS hl hs0 hn0 hu0 hRc hRs hd hst go
  | aaload =>
    have hn := eq_of_beq (show (len == 1) = true from hln); subst hn; exact ms_aaload C hW hS hl hs0 hn0 hu0 hRc hRs hd hst go
  | iastore =>
    have hn := eq_of_beq (show (len == 1) = true from hln); subst hn; exact ms_iastore C hW hS hl hs0 hn0 hu0 hRc hRs hd hst go
  | bastore =>
    have hn := eq_of_beq (show (len == 1) = true from hln); subst hn; exact ms_bastore C hW hS hl hs0 hn0 hu0 hRc hRs hd hst go
  | aastore =>
    have hn := eq_of_beq (show (len == 1) = true from hln); subst hn; exact ms_aastore C hW hS hl hs0 hn0 hu0 hRc hRs hd hst go
  | getfield k =>
    have hn := eq_of_beq (show (len == 3) = true from hln); subst hn; exact ms_getf C hW hS hl hs0 hn0 hu0 hRc hRs hd hst go
  | putfield k =>
    have hn := eq_of_beq (show (len == 3) = true from hln); subst hn; exact ms_putf C hW hS hl hs0 hn0 hu0 hRc hRs hd hst go
  | new k =>
    have hn := eq_of_beq (show (len == 3) = true from hln); subst hn; exact ms_new C hW hS hl hs0 hn0 hu0 hRc hRs hd hst go
  | anewarray k =>
    have hn := eq_of_beq (show (len == 3) = true from hln); subst hn; exact ms_anew C hW hS hl hs0 hn0 hu0 hRc hRs hd hst go
  | tableswitch d lo hi offs =>
    exact ms_ts C hW hS hl hs0 hn0 hu0 hRc hRs hd hst go
  | lookupswitch d ps =>
    exact ms_lw C hW hS hl hs0 hn0 hu0 hRc hRs hd hst go
  | newarray ty =>
    have hn := eq_of_beq (show (len == 2) = true from hln); subst hn
    cases ty with
    | int => exact ms_newi C hW hS hl hs0 hn0 hu0 hRc hRs hd hst go
    | boolean => exact ms_newz C hW hS hl hs0 hn0 hu0 hRc hRs hd hst go
    | _ => exact absurd (show (none : Option mm_F) = some fr from hst) (fun q => by cases q)
  | if_icmp cd off =>
    have hn := eq_of_beq (show (len == 3) = true from hln); subst hn
    unfold mm_st at hst
    dsimp only at hst
    split at hst
    · cases cd with
      | eq => exact ms_icmp_eq C hW hS hl hs0 hn0 hu0 hRc hRs hd hst go
      | ne => exact ms_icmp_ne C hW hS hl hs0 hn0 hu0 hRc hRs hd hst go
      | lt => exact ms_icmp_lt C hW hS hl hs0 hn0 hu0 hRc hRs hd hst go
      | ge => exact ms_icmp_ge C hW hS hl hs0 hn0 hu0 hRc hRs hd hst go
      | gt => exact ms_icmp_gt C hW hS hl hs0 hn0 hu0 hRc hRs hd hst go
      | le => exact ms_icmp_le C hW hS hl hs0 hn0 hu0 hRc hRs hd hst go
    · cases hst
  | ifCond cd off =>
    have hn := eq_of_beq (show (len == 3) = true from hln); subst hn
    unfold mm_st at hst
    dsimp only at hst
    split at hst
    · cases cd with
      | eq => exact ms_if_eq C hW hS hl hs0 hn0 hu0 hRc hRs hd hst go
      | ne => exact ms_if_ne C hW hS hl hs0 hn0 hu0 hRc hRs hd hst go
      | lt => exact ms_if_lt C hW hS hl hs0 hn0 hu0 hRc hRs hd hst go
      | ge => exact ms_if_ge C hW hS hl hs0 hn0 hu0 hRc hRs hd hst go
      | gt => exact ms_if_gt C hW hS hl hs0 hn0 hu0 hRc hRs hd hst go
      | le => exact ms_if_le C hW hS hl hs0 hn0 hu0 hRc hRs hd hst go
    · cases hst
  | _ => exact absurd (show (none : Option mm_F) = some fr from hst) (fun q => by cases q)
end MMT
