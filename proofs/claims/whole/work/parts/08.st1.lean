/-- the words that are carried by hand: links to nest mates, arrays of references -/
def mm_Nx (s : State) : Prop := (∀ a i x h, (Cond.methodLinkNest a i x h) ∈ lw_tbl → va_Nw (.methodLinkNest a i x h) s) ∧ (∀ C, (Cond.arrayOver (.object C)) ∈ lw_tbl → va_AO C s)
theorem mm_Nx_moved {s U : State} (hW : s.WarmedH U.vm) (h : mm_Nx s) : mm_Nx U := ⟨fun a i x y hw => va_Nw.warmM hW (h.1 a i x y hw), fun C hw => (h.2 C hw).moved hW.alike⟩
/-- what holds in a method of the system at any point of it -/
def mm_Cx (D : va_G) (dA : Nat → ClassId) (b h0 : Nat) (S : mm_S) (p : Program) (s : State) (m : MethodId) (args : Array Value) (meth : Method) (c : Code) (mi : Nat) : Prop :=
  p.tables.exec = Jvm.exec ∧ c.code = mm_by mi ∧ c.maxLocals = mm_mx mi ∧ meth.sig.returnType = mm_rt mi ∧ meth.locks = false ∧ s.vm.findClass (mm_cn (mm_ow mi)) = some m.cls ∧ (∀ w ∈ mm_tb, w.before args s = true) ∧ mm_Nx s ∧ va_K D vwCl (mm_tys dA) s ∧ (mm_in mi = true → meth.name = "<init>") ∧ va_X b S.1 S.2 s s.heap ∧ b < h0 ∧ h0 ≤ s.heap.size
/-- the goal from a small state on -/
def mm_Go (p : Program) (l : Launch) (e : Env) (R : Room) (s : State) (m : MethodId) (args : Array Value) (below : List Frame) (meth : Method) (c : Code) (Q : State → Prop) (D : va_G) (dA : Nat → ClassId) (b h0 n0 u0 : Nat) (fr : mm_F) : Prop :=
  ∀ (H1 : Heap) (locs1 : List Loc) (ls1 : Array Slot), mm_Wd D dA b h0 fr.2.2.2 H1 → va_S (mm_A h0) s.heap H1 locs1 → mm_lh b h0 ls1 fr.2.1 → W p l e R s m args below meth c H1 locs1 (fr.2.2.2.2.1 - n0) (fr.2.2.2.2.2 - u0) Q (F0 m fr.1 ls1 (fr.2.2.1.map (mm_up b h0)))
theorem mm_Sself {A : Nat → Prop} {H0 H : Heap} {locs : List Loc} (hS : va_S A H0 H locs) : va_S A H H locs := ⟨Nat.le_refl _, fun _ _ _ => rfl, hS.2.2⟩
theorem mm_Strans {A : Nat → Prop} {H0 H H1 : Heap} {locs locs1 : List Loc} (hS : va_S A H0 H locs) (h1 : va_S A H H1 locs1) : va_S A H0 H1 locs1 := ⟨Nat.le_trans hS.1 h1.1, fun q a b => (h1.2.1 q (Nat.lt_of_lt_of_le a hS.1) b).trans (hS.2.1 q a b), h1.2.2⟩
theorem mm_tg_spec {pc t : Nat} {off : Int} (h : mm_tg pc off = some t) : (pc : Int) + off = (t : Int) := by
  unfold mm_tg at h
  split at h
  · next q => cases h; exact (Int.toNat_of_nonneg q).symm
  · cases h
theorem mm_tc_ty {t c : Nat} (h : mm_tc t = some c) : t < 4 ∧ mm_ty t = .object (mm_cn c) ∧ c < 13 := by
  match t, h with
  | 2, h => cases h; exact ⟨by decide, rfl, by decide⟩
  | 3, h => cases h; exact ⟨by decide, rfl, by decide⟩
theorem mm_tys_at (dA : Nat → ClassId) {t : Nat} (h : t < 4) : (mm_tys dA)[t]? = some (dA t, mm_ty t) := by
  match t, h with
  | 0, _ => rfl
  | 1, _ => rfl
  | 2, _ => rfl
  | 3, _ => rfl
section MMS
variable {p : Program} {l : Launch} {e : Env} {R : Room} {s : State} {m : MethodId} {args : Array Value} {below : List Frame} {meth : Method} {c : Code} {H : Heap} {locs : List Loc} {Q : State → Prop} {D : va_G} {dA : Nat → ClassId} {b h0 : Nat} {S : mm_S} {mi pc n0 u0 : Nat} {ls : Array Slot} {L : mm_L} {st : List Value} {M : mm_M}
theorem mm_sz {cells slots : Nat} {g : JFrame} (k : H.size ≤ s.heap.size + cells → W p l e R s m args below meth c H locs cells slots Q g) : W p l e R s m args below meth c H locs cells slots Q g := fun T hT X => k (by rw [← hT]; exact X.heapSize) T hT X
/-- behind a store into the cell a -/
theorem mm_afterput {H1 : Heap} {locs1 : List Loc} {pc' q0 a : Nat} {st' : List Value} {c0 c1 : mm_E} (hW : mm_Wd D dA b h0 M H) (hS : va_S (mm_A h0) s.heap H locs) (hl : mm_lh b h0 ls L) (hs0 : s.heap.size + 1 = h0 + n0) (hn0 : n0 ≤ M.2.1) (h : M.1 a = some c0) (ha : a = q0 + 1) (hP1 : va_P D vwCl ((mm_ws dA b h0 M).set q0 (h0 + q0, mm_uE dA b h0 c1)) H1) (hS1 : va_S (mm_A h0) H H1 locs1)
    (go : mm_Go p l e R s m args below meth c Q D dA b h0 n0 u0 (pc', L, st', mm_put M a c1)) : W p l e R s m args below meth c H1 locs1 (M.2.1 - n0) (M.2.2 - u0) Q (F0 m pc' ls (st'.map (mm_up b h0))) := by
  refine mm_sz fun hz => ?_
  have z : H1.size = H.size := by
    have z1 := hW.1.2
    have z2 := hS1.1
    omega
  subst ha
  have hlt := (hW.2.1 _ _ h).2
  rw [mm_ws_put hlt] at hP1
  exact go H1 locs1 ls (mm_Wd_put hW h z hP1) (mm_Strans hS hS1) hl
/-- behind a making -/
theorem mm_afternew {H1 : Heap} {locs1 : List Loc} {pc' q z : Nat} {st' : List Value} {c1 : mm_E} {e1 : va_E} (hW : mm_Wd D dA b h0 M H) (hS : va_S (mm_A h0) s.heap H locs) (hl : mm_lh b h0 ls L) (hs0 : s.heap.size + 1 = h0 + n0) (hn0 : n0 ≤ M.2.1) (hu0 : u0 ≤ M.2.2) (he : e1 = mm_uE dA b h0 c1) (hP1 : va_P D vwCl (mm_ws dA b h0 M ++ [(q, e1)]) H1) (hD1 : va_D (mm_A h0) (mm_ws dA b h0 M ++ [(q, e1)])) (hS1 : va_S (mm_A h0) H H1 locs1)
    (go : mm_Go p l e R s m args below meth c Q D dA b h0 n0 u0 (pc', L, .ref M.2.1 :: st', mm_add M c1 z)) : W p l e R s m args below meth c H1 locs1 (M.2.1 - n0 + 1) (M.2.2 - u0 + z) Q (F0 m pc' ls (.ref q :: st'.map (mm_up b h0))) := by
  subst he
  have hlen : (mm_ws dA b h0 M).length = M.2.1 - 1 := by unfold mm_ws; rw [List.length_map, List.length_range]
  have hlast : (mm_ws dA b h0 M ++ [(q, mm_uE dA b h0 c1)])[M.2.1 - 1]? = some (q, mm_uE dA b h0 c1) := by
    rw [← hlen]
    simp
  refine mm_sz fun hz => ?_
  have hq1 : q < H1.size := (hP1 _ _ hlast).lt
  have hq0 : h0 ≤ q := hD1.2 _ _ hlast
  have z1 := hW.1.2
  have z0 := hW.1.1
  have z2 := hS1.1
  have hq : q = h0 + (M.2.1 - 1) := by
    rcases Nat.lt_or_ge q (h0 + (M.2.1 - 1)) with hlt | hge
    · exfalso
      obtain ⟨k, rfl⟩ : ∃ k, q = h0 + k := ⟨q - h0, by omega⟩
      have hk : k < M.2.1 - 1 := by omega
      have h1 : (mm_ws dA b h0 M ++ [(h0 + k, mm_uE dA b h0 c1)])[k]? = some (h0 + k, mm_uE dA b h0 ((M.1 (k + 1)).getD (.inr (0, [])))) := by
        rw [List.getElem?_append_left (by rw [hlen]; exact hk)]
        unfold mm_ws
        rw [List.getElem?_map, mm_rng' hk]
        rfl
      have h2 := hD1.1 _ _ _ _ h1 hlast rfl
      omega
    · omega
  subst hq
  have hP2 : va_P D vwCl (mm_ws dA b h0 (mm_add M c1 z)) H1 := by
    rw [mm_ws_add z0]
    exact hP1
  have z3 : H1.size = H.size + 1 := by omega
  have g := go H1 locs1 ls (mm_Wd_add hW z3 hP2) (mm_Strans hS hS1) hl
  have e1 : (mm_add M c1 z).2.1 - n0 = M.2.1 - n0 + 1 := by show M.2.1 + 1 - n0 = _; omega
  have e2 : (mm_add M c1 z).2.2 - u0 = M.2.2 - u0 + z := by show M.2.2 + z - u0 = _; omega
  have e3 : mm_up b h0 (.ref M.2.1) = .ref (h0 + (M.2.1 - 1)) := by
    obtain ⟨k, hk⟩ : ∃ k, M.2.1 = k + 1 := ⟨M.2.1 - 1, by omega⟩
    rw [hk]
    rfl
  have g2 : W p l e R s m args below meth c H1 locs1 ((mm_add M c1 z).2.1 - n0) ((mm_add M c1 z).2.2 - u0) Q (F0 m pc' ls (mm_up b h0 (.ref M.2.1) :: st'.map (mm_up b h0))) := g
  rw [e1, e2, e3] at g2
  exact g2
theorem ms_iadd (C : mm_Cx D dA b h0 S p s m args meth c mi) (hW : mm_Wd D dA b h0 M H) (hS : va_S (mm_A h0) s.heap H locs) (hl : mm_lh b h0 ls L) (hs0 : s.heap.size + 1 = h0 + n0) (hn0 : n0 ≤ M.2.1) (hu0 : u0 ≤ M.2.2) {fr : mm_F} (hRc : fr.2.2.2.2.1 ≤ R.cells + n0) (hRs : fr.2.2.2.2.2 ≤ R.slots + u0) (hd : decode (mm_by mi) pc = .ok (.iadd, 1)) (hst : mm_b2 (fun x y => x + y) pc L st M = some fr) (go : mm_Go p l e R s m args below meth c Q D dA b h0 n0 u0 fr) : W p l e R s m args below meth c H locs (M.2.1 - n0) (M.2.2 - u0) Q (F0 m pc ls (st.map (mm_up b h0))) := by
  obtain ⟨hx, hb, hml, hrt, hlk, hown, hts, hnx, hK, hini, hX, hbl, hh0⟩ := C
  unfold mm_b2 at hst
  split at hst
  · next y x r =>
    cases hst
    exact lv_iadd (x := x) (y := y) (rest := r.map (mm_up b h0)) hx hb hd (go H locs ls hW hS hl)
  · cases hst
theorem ms_isub (C : mm_Cx D dA b h0 S p s m args meth c mi) (hW : mm_Wd D dA b h0 M H) (hS : va_S (mm_A h0) s.heap H locs) (hl : mm_lh b h0 ls L) (hs0 : s.heap.size + 1 = h0 + n0) (hn0 : n0 ≤ M.2.1) (hu0 : u0 ≤ M.2.2) {fr : mm_F} (hRc : fr.2.2.2.2.1 ≤ R.cells + n0) (hRs : fr.2.2.2.2.2 ≤ R.slots + u0) (hd : decode (mm_by mi) pc = .ok (.isub, 1)) (hst : mm_b2 (fun x y => x - y) pc L st M = some fr) (go : mm_Go p l e R s m args below meth c Q D dA b h0 n0 u0 fr) : W p l e R s m args below meth c H locs (M.2.1 - n0) (M.2.2 - u0) Q (F0 m pc ls (st.map (mm_up b h0))) := by
  obtain ⟨hx, hb, hml, hrt, hlk, hown, hts, hnx, hK, hini, hX, hbl, hh0⟩ := C
  unfold mm_b2 at hst
  split at hst
  · next y x r =>
    cases hst
    exact lv_isub (x := x) (y := y) (rest := r.map (mm_up b h0)) hx hb hd (go H locs ls hW hS hl)
  · cases hst
theorem ms_imul (C : mm_Cx D dA b h0 S p s m args meth c mi) (hW : mm_Wd D dA b h0 M H) (hS : va_S (mm_A h0) s.heap H locs) (hl : mm_lh b h0 ls L) (hs0 : s.heap.size + 1 = h0 + n0) (hn0 : n0 ≤ M.2.1) (hu0 : u0 ≤ M.2.2) {fr : mm_F} (hRc : fr.2.2.2.2.1 ≤ R.cells + n0) (hRs : fr.2.2.2.2.2 ≤ R.slots + u0) (hd : decode (mm_by mi) pc = .ok (.imul, 1)) (hst : mm_b2 (fun x y => x * y) pc L st M = some fr) (go : mm_Go p l e R s m args below meth c Q D dA b h0 n0 u0 fr) : W p l e R s m args below meth c H locs (M.2.1 - n0) (M.2.2 - u0) Q (F0 m pc ls (st.map (mm_up b h0))) := by
  obtain ⟨hx, hb, hml, hrt, hlk, hown, hts, hnx, hK, hini, hX, hbl, hh0⟩ := C
  unfold mm_b2 at hst
  split at hst
  · next y x r =>
    cases hst
    exact lv_imul (x := x) (y := y) (rest := r.map (mm_up b h0)) hx hb hd (go H locs ls hW hS hl)
  · cases hst
theorem ms_iand (C : mm_Cx D dA b h0 S p s m args meth c mi) (hW : mm_Wd D dA b h0 M H) (hS : va_S (mm_A h0) s.heap H locs) (hl : mm_lh b h0 ls L) (hs0 : s.heap.size + 1 = h0 + n0) (hn0 : n0 ≤ M.2.1) (hu0 : u0 ≤ M.2.2) {fr : mm_F} (hRc : fr.2.2.2.2.1 ≤ R.cells + n0) (hRs : fr.2.2.2.2.2 ≤ R.slots + u0) (hd : decode (mm_by mi) pc = .ok (.iand, 1)) (hst : mm_b2 (fun x y => x &&& y) pc L st M = some fr) (go : mm_Go p l e R s m args below meth c Q D dA b h0 n0 u0 fr) : W p l e R s m args below meth c H locs (M.2.1 - n0) (M.2.2 - u0) Q (F0 m pc ls (st.map (mm_up b h0))) := by
  obtain ⟨hx, hb, hml, hrt, hlk, hown, hts, hnx, hK, hini, hX, hbl, hh0⟩ := C
  unfold mm_b2 at hst
  split at hst
  · next y x r =>
    cases hst
    exact lv_iand (x := x) (y := y) (rest := r.map (mm_up b h0)) hx hb hd (go H locs ls hW hS hl)
  · cases hst
theorem ms_ior (C : mm_Cx D dA b h0 S p s m args meth c mi) (hW : mm_Wd D dA b h0 M H) (hS : va_S (mm_A h0) s.heap H locs) (hl : mm_lh b h0 ls L) (hs0 : s.heap.size + 1 = h0 + n0) (hn0 : n0 ≤ M.2.1) (hu0 : u0 ≤ M.2.2) {fr : mm_F} (hRc : fr.2.2.2.2.1 ≤ R.cells + n0) (hRs : fr.2.2.2.2.2 ≤ R.slots + u0) (hd : decode (mm_by mi) pc = .ok (.ior, 1)) (hst : mm_b2 (fun x y => x ||| y) pc L st M = some fr) (go : mm_Go p l e R s m args below meth c Q D dA b h0 n0 u0 fr) : W p l e R s m args below meth c H locs (M.2.1 - n0) (M.2.2 - u0) Q (F0 m pc ls (st.map (mm_up b h0))) := by
  obtain ⟨hx, hb, hml, hrt, hlk, hown, hts, hnx, hK, hini, hX, hbl, hh0⟩ := C
  unfold mm_b2 at hst
  split at hst
  · next y x r =>
    cases hst
    exact lv_ior (x := x) (y := y) (rest := r.map (mm_up b h0)) hx hb hd (go H locs ls hW hS hl)
  · cases hst
theorem ms_ixor (C : mm_Cx D dA b h0 S p s m args meth c mi) (hW : mm_Wd D dA b h0 M H) (hS : va_S (mm_A h0) s.heap H locs) (hl : mm_lh b h0 ls L) (hs0 : s.heap.size + 1 = h0 + n0) (hn0 : n0 ≤ M.2.1) (hu0 : u0 ≤ M.2.2) {fr : mm_F} (hRc : fr.2.2.2.2.1 ≤ R.cells + n0) (hRs : fr.2.2.2.2.2 ≤ R.slots + u0) (hd : decode (mm_by mi) pc = .ok (.ixor, 1)) (hst : mm_b2 (fun x y => x ^^^ y) pc L st M = some fr) (go : mm_Go p l e R s m args below meth c Q D dA b h0 n0 u0 fr) : W p l e R s m args below meth c H locs (M.2.1 - n0) (M.2.2 - u0) Q (F0 m pc ls (st.map (mm_up b h0))) := by
  obtain ⟨hx, hb, hml, hrt, hlk, hown, hts, hnx, hK, hini, hX, hbl, hh0⟩ := C
  unfold mm_b2 at hst
  split at hst
  · next y x r =>
    cases hst
    exact lv_ixor (x := x) (y := y) (rest := r.map (mm_up b h0)) hx hb hd (go H locs ls hW hS hl)
  · cases hst
theorem ms_ishl (C : mm_Cx D dA b h0 S p s m args meth c mi) (hW : mm_Wd D dA b h0 M H) (hS : va_S (mm_A h0) s.heap H locs) (hl : mm_lh b h0 ls L) (hs0 : s.heap.size + 1 = h0 + n0) (hn0 : n0 ≤ M.2.1) (hu0 : u0 ≤ M.2.2) {fr : mm_F} (hRc : fr.2.2.2.2.1 ≤ R.cells + n0) (hRs : fr.2.2.2.2.2 ≤ R.slots + u0) (hd : decode (mm_by mi) pc = .ok (.ishl, 1)) (hst : mm_b2 (fun x y => x <<< (y &&& 31)) pc L st M = some fr) (go : mm_Go p l e R s m args below meth c Q D dA b h0 n0 u0 fr) : W p l e R s m args below meth c H locs (M.2.1 - n0) (M.2.2 - u0) Q (F0 m pc ls (st.map (mm_up b h0))) := by
  obtain ⟨hx, hb, hml, hrt, hlk, hown, hts, hnx, hK, hini, hX, hbl, hh0⟩ := C
  unfold mm_b2 at hst
  split at hst
  · next y x r =>
    cases hst
    exact lv_ishl (x := x) (y := y) (rest := r.map (mm_up b h0)) hx hb hd (go H locs ls hW hS hl)
  · cases hst
theorem ms_ishr (C : mm_Cx D dA b h0 S p s m args meth c mi) (hW : mm_Wd D dA b h0 M H) (hS : va_S (mm_A h0) s.heap H locs) (hl : mm_lh b h0 ls L) (hs0 : s.heap.size + 1 = h0 + n0) (hn0 : n0 ≤ M.2.1) (hu0 : u0 ≤ M.2.2) {fr : mm_F} (hRc : fr.2.2.2.2.1 ≤ R.cells + n0) (hRs : fr.2.2.2.2.2 ≤ R.slots + u0) (hd : decode (mm_by mi) pc = .ok (.ishr, 1)) (hst : mm_b2 (fun x y => x >>> (y &&& 31)) pc L st M = some fr) (go : mm_Go p l e R s m args below meth c Q D dA b h0 n0 u0 fr) : W p l e R s m args below meth c H locs (M.2.1 - n0) (M.2.2 - u0) Q (F0 m pc ls (st.map (mm_up b h0))) := by
  obtain ⟨hx, hb, hml, hrt, hlk, hown, hts, hnx, hK, hini, hX, hbl, hh0⟩ := C
  unfold mm_b2 at hst
  split at hst
  · next y x r =>
    cases hst
    exact lv_ishr (x := x) (y := y) (rest := r.map (mm_up b h0)) hx hb hd (go H locs ls hW hS hl)
  · cases hst
theorem ms_iushr (C : mm_Cx D dA b h0 S p s m args meth c mi) (hW : mm_Wd D dA b h0 M H) (hS : va_S (mm_A h0) s.heap H locs) (hl : mm_lh b h0 ls L) (hs0 : s.heap.size + 1 = h0 + n0) (hn0 : n0 ≤ M.2.1) (hu0 : u0 ≤ M.2.2) {fr : mm_F} (hRc : fr.2.2.2.2.1 ≤ R.cells + n0) (hRs : fr.2.2.2.2.2 ≤ R.slots + u0) (hd : decode (mm_by mi) pc = .ok (.iushr, 1)) (hst : mm_b2 (fun x y => (x.toUInt32 >>> (y.toUInt32 &&& Int32.toUInt32 31)).toInt32) pc L st M = some fr) (go : mm_Go p l e R s m args below meth c Q D dA b h0 n0 u0 fr) : W p l e R s m args below meth c H locs (M.2.1 - n0) (M.2.2 - u0) Q (F0 m pc ls (st.map (mm_up b h0))) := by
  obtain ⟨hx, hb, hml, hrt, hlk, hown, hts, hnx, hK, hini, hX, hbl, hh0⟩ := C
  unfold mm_b2 at hst
  split at hst
  · next y x r =>
    cases hst
    exact lv_iushr (x := x) (y := y) (rest := r.map (mm_up b h0)) hx hb hd rfl (go H locs ls hW hS hl)
  · cases hst
theorem ms_idiv (C : mm_Cx D dA b h0 S p s m args meth c mi) (hW : mm_Wd D dA b h0 M H) (hS : va_S (mm_A h0) s.heap H locs) (hl : mm_lh b h0 ls L) (hs0 : s.heap.size + 1 = h0 + n0) (hn0 : n0 ≤ M.2.1) (hu0 : u0 ≤ M.2.2) {fr : mm_F} (hRc : fr.2.2.2.2.1 ≤ R.cells + n0) (hRs : fr.2.2.2.2.2 ≤ R.slots + u0) (hd : decode (mm_by mi) pc = .ok (.idiv, 1)) (hst : mm_b3 (fun x y => x / y) pc L st M = some fr) (go : mm_Go p l e R s m args below meth c Q D dA b h0 n0 u0 fr) : W p l e R s m args below meth c H locs (M.2.1 - n0) (M.2.2 - u0) Q (F0 m pc ls (st.map (mm_up b h0))) := by
  obtain ⟨hx, hb, hml, hrt, hlk, hown, hts, hnx, hK, hini, hX, hbl, hh0⟩ := C
  unfold mm_b3 at hst
  split at hst
  · next y x r =>
    split at hst
    · cases hst
    · next hne =>
      cases hst
      exact lv_idiv (x := x) (y := y) (rest := r.map (mm_up b h0)) hx hb hd hne (go H locs ls hW hS hl)
  · cases hst
theorem ms_irem (C : mm_Cx D dA b h0 S p s m args meth c mi) (hW : mm_Wd D dA b h0 M H) (hS : va_S (mm_A h0) s.heap H locs) (hl : mm_lh b h0 ls L) (hs0 : s.heap.size + 1 = h0 + n0) (hn0 : n0 ≤ M.2.1) (hu0 : u0 ≤ M.2.2) {fr : mm_F} (hRc : fr.2.2.2.2.1 ≤ R.cells + n0) (hRs : fr.2.2.2.2.2 ≤ R.slots + u0) (hd : decode (mm_by mi) pc = .ok (.irem, 1)) (hst : mm_b3 (fun x y => x - x / y * y) pc L st M = some fr) (go : mm_Go p l e R s m args below meth c Q D dA b h0 n0 u0 fr) : W p l e R s m args below meth c H locs (M.2.1 - n0) (M.2.2 - u0) Q (F0 m pc ls (st.map (mm_up b h0))) := by
  obtain ⟨hx, hb, hml, hrt, hlk, hown, hts, hnx, hK, hini, hX, hbl, hh0⟩ := C
  unfold mm_b3 at hst
  split at hst
  · next y x r =>
    split at hst
    · cases hst
    · next hne =>
      cases hst
      exact lv_irem (x := x) (y := y) (rest := r.map (mm_up b h0)) hx hb hd hne (go H locs ls hW hS hl)
  · cases hst
theorem ms_iload_n (C : mm_Cx D dA b h0 S p s m args meth c mi) (hW : mm_Wd D dA b h0 M H) (hS : va_S (mm_A h0) s.heap H locs) (hl : mm_lh b h0 ls L) (hs0 : s.heap.size + 1 = h0 + n0) (hn0 : n0 ≤ M.2.1) (hu0 : u0 ≤ M.2.2) {fr : mm_F} (hRc : fr.2.2.2.2.1 ≤ R.cells + n0) (hRs : fr.2.2.2.2.2 ≤ R.slots + u0) {k : Fin 4} (hd : decode (mm_by mi) pc = .ok (.iload_n k, 1)) (hst : mm_ldi k.val 1 pc L st M = some fr) (go : mm_Go p l e R s m args below meth c Q D dA b h0 n0 u0 fr) : W p l e R s m args below meth c H locs (M.2.1 - n0) (M.2.2 - u0) Q (F0 m pc ls (st.map (mm_up b h0))) := by
  obtain ⟨hx, hb, hml, hrt, hlk, hown, hts, hnx, hK, hini, hX, hbl, hh0⟩ := C
  unfold mm_ldi at hst
  split at hst
  · next x hL =>
    cases hst
    exact lv_iload_n (x := x) (rest := st.map (mm_up b h0)) hx hb hd rfl (hl.2.2 _ _ hL).2 (go H locs ls hW hS hl)
  · cases hst
theorem ms_iload (C : mm_Cx D dA b h0 S p s m args meth c mi) (hW : mm_Wd D dA b h0 M H) (hS : va_S (mm_A h0) s.heap H locs) (hl : mm_lh b h0 ls L) (hs0 : s.heap.size + 1 = h0 + n0) (hn0 : n0 ≤ M.2.1) (hu0 : u0 ≤ M.2.2) {fr : mm_F} (hRc : fr.2.2.2.2.1 ≤ R.cells + n0) (hRs : fr.2.2.2.2.2 ≤ R.slots + u0) {k : Nat} (hd : decode (mm_by mi) pc = .ok (.iload k, 2)) (hst : mm_ldi k 2 pc L st M = some fr) (go : mm_Go p l e R s m args below meth c Q D dA b h0 n0 u0 fr) : W p l e R s m args below meth c H locs (M.2.1 - n0) (M.2.2 - u0) Q (F0 m pc ls (st.map (mm_up b h0))) := by
  obtain ⟨hx, hb, hml, hrt, hlk, hown, hts, hnx, hK, hini, hX, hbl, hh0⟩ := C
  unfold mm_ldi at hst
  split at hst
  · next x hL =>
    cases hst
    exact lv_iload (x := x) (rest := st.map (mm_up b h0)) hx hb hd (hl.2.2 _ _ hL).2 (go H locs ls hW hS hl)
  · cases hst
theorem ms_aload_n (C : mm_Cx D dA b h0 S p s m args meth c mi) (hW : mm_Wd D dA b h0 M H) (hS : va_S (mm_A h0) s.heap H locs) (hl : mm_lh b h0 ls L) (hs0 : s.heap.size + 1 = h0 + n0) (hn0 : n0 ≤ M.2.1) (hu0 : u0 ≤ M.2.2) {fr : mm_F} (hRc : fr.2.2.2.2.1 ≤ R.cells + n0) (hRs : fr.2.2.2.2.2 ≤ R.slots + u0) {k : Fin 4} (hd : decode (mm_by mi) pc = .ok (.aload_n k, 1)) (hst : mm_lda k.val 1 pc L st M = some fr) (go : mm_Go p l e R s m args below meth c Q D dA b h0 n0 u0 fr) : W p l e R s m args below meth c H locs (M.2.1 - n0) (M.2.2 - u0) Q (F0 m pc ls (st.map (mm_up b h0))) := by
  obtain ⟨hx, hb, hml, hrt, hlk, hown, hts, hnx, hK, hini, hX, hbl, hh0⟩ := C
  unfold mm_lda at hst
  split at hst
  · next x hL =>
    cases hst
    exact lv_aload_n (x := mm_ad b h0 x) (rest := st.map (mm_up b h0)) hx hb hd rfl (hl.2.2 _ _ hL).2 (go H locs ls hW hS hl)
  · cases hst
theorem ms_aload (C : mm_Cx D dA b h0 S p s m args meth c mi) (hW : mm_Wd D dA b h0 M H) (hS : va_S (mm_A h0) s.heap H locs) (hl : mm_lh b h0 ls L) (hs0 : s.heap.size + 1 = h0 + n0) (hn0 : n0 ≤ M.2.1) (hu0 : u0 ≤ M.2.2) {fr : mm_F} (hRc : fr.2.2.2.2.1 ≤ R.cells + n0) (hRs : fr.2.2.2.2.2 ≤ R.slots + u0) {k : Nat} (hd : decode (mm_by mi) pc = .ok (.aload k, 2)) (hst : mm_lda k 2 pc L st M = some fr) (go : mm_Go p l e R s m args below meth c Q D dA b h0 n0 u0 fr) : W p l e R s m args below meth c H locs (M.2.1 - n0) (M.2.2 - u0) Q (F0 m pc ls (st.map (mm_up b h0))) := by
  obtain ⟨hx, hb, hml, hrt, hlk, hown, hts, hnx, hK, hini, hX, hbl, hh0⟩ := C
  unfold mm_lda at hst
  split at hst
  · next x hL =>
    cases hst
    exact lv_aload (x := mm_ad b h0 x) (rest := st.map (mm_up b h0)) hx hb hd (hl.2.2 _ _ hL).2 (go H locs ls hW hS hl)
  · cases hst
theorem ms_istore_n (C : mm_Cx D dA b h0 S p s m args meth c mi) (hW : mm_Wd D dA b h0 M H) (hS : va_S (mm_A h0) s.heap H locs) (hl : mm_lh b h0 ls L) (hs0 : s.heap.size + 1 = h0 + n0) (hn0 : n0 ≤ M.2.1) (hu0 : u0 ≤ M.2.2) {fr : mm_F} (hRc : fr.2.2.2.2.1 ≤ R.cells + n0) (hRs : fr.2.2.2.2.2 ≤ R.slots + u0) {k : Fin 4} (hd : decode (mm_by mi) pc = .ok (.istore_n k, 1)) (hst : mm_sti k.val 1 pc L st M = some fr) (go : mm_Go p l e R s m args below meth c Q D dA b h0 n0 u0 fr) : W p l e R s m args below meth c H locs (M.2.1 - n0) (M.2.2 - u0) Q (F0 m pc ls (st.map (mm_up b h0))) := by
  obtain ⟨hx, hb, hml, hrt, hlk, hown, hts, hnx, hK, hini, hX, hbl, hh0⟩ := C
  unfold mm_sti at hst
  split at hst
  · next x r =>
    split at hst
    · next hk =>
      cases hst
      exact lv_istore_n (x := x) (rest := r.map (mm_up b h0)) hx hb hd rfl (mm_lh_has hl) hk rfl (fun ls' h' => go H locs ls' hW hS (mm_lh_set (x := .int x) hl rfl hk h'))
    · cases hst
  · cases hst
theorem ms_istore (C : mm_Cx D dA b h0 S p s m args meth c mi) (hW : mm_Wd D dA b h0 M H) (hS : va_S (mm_A h0) s.heap H locs) (hl : mm_lh b h0 ls L) (hs0 : s.heap.size + 1 = h0 + n0) (hn0 : n0 ≤ M.2.1) (hu0 : u0 ≤ M.2.2) {fr : mm_F} (hRc : fr.2.2.2.2.1 ≤ R.cells + n0) (hRs : fr.2.2.2.2.2 ≤ R.slots + u0) {k : Nat} (hd : decode (mm_by mi) pc = .ok (.istore k, 2)) (hst : mm_sti k 2 pc L st M = some fr) (go : mm_Go p l e R s m args below meth c Q D dA b h0 n0 u0 fr) : W p l e R s m args below meth c H locs (M.2.1 - n0) (M.2.2 - u0) Q (F0 m pc ls (st.map (mm_up b h0))) := by
  obtain ⟨hx, hb, hml, hrt, hlk, hown, hts, hnx, hK, hini, hX, hbl, hh0⟩ := C
  unfold mm_sti at hst
  split at hst
  · next x r =>
    split at hst
    · next hk =>
      cases hst
      exact lv_istore (x := x) (rest := r.map (mm_up b h0)) hx hb hd (mm_lh_has hl) hk rfl (fun ls' h' => go H locs ls' hW hS (mm_lh_set (x := .int x) hl rfl hk h'))
    · cases hst
  · cases hst
theorem ms_astore_n (C : mm_Cx D dA b h0 S p s m args meth c mi) (hW : mm_Wd D dA b h0 M H) (hS : va_S (mm_A h0) s.heap H locs) (hl : mm_lh b h0 ls L) (hs0 : s.heap.size + 1 = h0 + n0) (hn0 : n0 ≤ M.2.1) (hu0 : u0 ≤ M.2.2) {fr : mm_F} (hRc : fr.2.2.2.2.1 ≤ R.cells + n0) (hRs : fr.2.2.2.2.2 ≤ R.slots + u0) {k : Fin 4} (hd : decode (mm_by mi) pc = .ok (.astore_n k, 1)) (hst : mm_sta k.val 1 pc L st M = some fr) (go : mm_Go p l e R s m args below meth c Q D dA b h0 n0 u0 fr) : W p l e R s m args below meth c H locs (M.2.1 - n0) (M.2.2 - u0) Q (F0 m pc ls (st.map (mm_up b h0))) := by
  obtain ⟨hx, hb, hml, hrt, hlk, hown, hts, hnx, hK, hini, hX, hbl, hh0⟩ := C
  unfold mm_sta at hst
  split at hst
  · next x r =>
    split at hst
    · next hk =>
      cases hst
      exact lv_astore_n (x := mm_ad b h0 x) (rest := r.map (mm_up b h0)) hx hb hd rfl (mm_lh_has hl) hk rfl (fun ls' h' => go H locs ls' hW hS (mm_lh_set (x := .ref x) hl rfl hk h'))
    · cases hst
  · cases hst
theorem ms_astore (C : mm_Cx D dA b h0 S p s m args meth c mi) (hW : mm_Wd D dA b h0 M H) (hS : va_S (mm_A h0) s.heap H locs) (hl : mm_lh b h0 ls L) (hs0 : s.heap.size + 1 = h0 + n0) (hn0 : n0 ≤ M.2.1) (hu0 : u0 ≤ M.2.2) {fr : mm_F} (hRc : fr.2.2.2.2.1 ≤ R.cells + n0) (hRs : fr.2.2.2.2.2 ≤ R.slots + u0) {k : Nat} (hd : decode (mm_by mi) pc = .ok (.astore k, 2)) (hst : mm_sta k 2 pc L st M = some fr) (go : mm_Go p l e R s m args below meth c Q D dA b h0 n0 u0 fr) : W p l e R s m args below meth c H locs (M.2.1 - n0) (M.2.2 - u0) Q (F0 m pc ls (st.map (mm_up b h0))) := by
  obtain ⟨hx, hb, hml, hrt, hlk, hown, hts, hnx, hK, hini, hX, hbl, hh0⟩ := C
  unfold mm_sta at hst
  split at hst
  · next x r =>
    split at hst
    · next hk =>
      cases hst
      exact lv_astore (x := mm_ad b h0 x) (rest := r.map (mm_up b h0)) hx hb hd (mm_lh_has hl) hk rfl (fun ls' h' => go H locs ls' hW hS (mm_lh_set (x := .ref x) hl rfl hk h'))
    · cases hst
  · cases hst
theorem ms_iinc (C : mm_Cx D dA b h0 S p s m args meth c mi) (hW : mm_Wd D dA b h0 M H) (hS : va_S (mm_A h0) s.heap H locs) (hl : mm_lh b h0 ls L) (hs0 : s.heap.size + 1 = h0 + n0) (hn0 : n0 ≤ M.2.1) (hu0 : u0 ≤ M.2.2) {fr : mm_F} (hRc : fr.2.2.2.2.1 ≤ R.cells + n0) (hRs : fr.2.2.2.2.2 ≤ R.slots + u0) {k : Nat} {n : Int} (hd : decode (mm_by mi) pc = .ok (.iinc k n, 3)) (hst : mm_inc k n pc L st M = some fr) (go : mm_Go p l e R s m args below meth c Q D dA b h0 n0 u0 fr) : W p l e R s m args below meth c H locs (M.2.1 - n0) (M.2.2 - u0) Q (F0 m pc ls (st.map (mm_up b h0))) := by
  obtain ⟨hx, hb, hml, hrt, hlk, hown, hts, hnx, hK, hini, hX, hbl, hh0⟩ := C
  unfold mm_inc at hst
  split at hst
  · next x hL =>
    cases hst
    obtain ⟨j, hj⟩ := List.getElem?_of_mem (mm_pr_mem (b := b) (h0 := h0) hL)
    have hk : k < L.length := (List.getElem?_eq_some_iff.mp hL).1
    exact lv_iinc (x := x) (rest := st.map (mm_up b h0)) hx hb hd (mm_lh_has hl) hj rfl hk rfl (fun ls' h' => go H locs ls' hW hS (mm_lh_set (x := .int (x + Int32.ofInt n)) hl rfl hk h'))
  · cases hst
theorem ms_icmp_eq (C : mm_Cx D dA b h0 S p s m args meth c mi) (hW : mm_Wd D dA b h0 M H) (hS : va_S (mm_A h0) s.heap H locs) (hl : mm_lh b h0 ls L) (hs0 : s.heap.size + 1 = h0 + n0) (hn0 : n0 ≤ M.2.1) (hu0 : u0 ≤ M.2.2) {fr : mm_F} (hRc : fr.2.2.2.2.1 ≤ R.cells + n0) (hRs : fr.2.2.2.2.2 ≤ R.slots + u0) {off : Int} (hd : decode (mm_by mi) pc = .ok (.if_icmp .eq off, 3)) {x y : Int32} (hst : mm_br (mm_cc .eq x y) off pc L st M = some fr) (go : mm_Go p l e R s m args below meth c Q D dA b h0 n0 u0 fr) : W p l e R s m args below meth c H locs (M.2.1 - n0) (M.2.2 - u0) Q (F0 m pc ls ((.int y :: .int x :: st).map (mm_up b h0))) := by
  obtain ⟨hx, hb, hml, hrt, hlk, hown, hts, hnx, hK, hini, hX, hbl, hh0⟩ := C
  unfold mm_br at hst
  split at hst
  · next t ht =>
    refine lv_icmp_eq (x := x) (y := y) (tgt := t) (rest := st.map (mm_up b h0)) hx hb hd (mm_tg_spec ht) (fun h => ?_) (fun h => ?_)
    · have hc : mm_cc .eq x y = true := decide_eq_true h
      rw [hc] at hst
      cases hst
      exact go H locs ls hW hS hl
    · have hc : mm_cc .eq x y = false := decide_eq_false h
      rw [hc] at hst
      cases hst
      exact go H locs ls hW hS hl
  · cases hst
theorem ms_if_eq (C : mm_Cx D dA b h0 S p s m args meth c mi) (hW : mm_Wd D dA b h0 M H) (hS : va_S (mm_A h0) s.heap H locs) (hl : mm_lh b h0 ls L) (hs0 : s.heap.size + 1 = h0 + n0) (hn0 : n0 ≤ M.2.1) (hu0 : u0 ≤ M.2.2) {fr : mm_F} (hRc : fr.2.2.2.2.1 ≤ R.cells + n0) (hRs : fr.2.2.2.2.2 ≤ R.slots + u0) {off : Int} (hd : decode (mm_by mi) pc = .ok (.ifCond .eq off, 3)) {x : Int32} (hst : mm_br (mm_cc .eq x 0) off pc L st M = some fr) (go : mm_Go p l e R s m args below meth c Q D dA b h0 n0 u0 fr) : W p l e R s m args below meth c H locs (M.2.1 - n0) (M.2.2 - u0) Q (F0 m pc ls ((.int x :: st).map (mm_up b h0))) := by
  obtain ⟨hx, hb, hml, hrt, hlk, hown, hts, hnx, hK, hini, hX, hbl, hh0⟩ := C
  unfold mm_br at hst
  split at hst
  · next t ht =>
    refine lv_if_eq (x := x) (tgt := t) (rest := st.map (mm_up b h0)) hx hb hd (mm_tg_spec ht) (fun h => ?_) (fun h => ?_)
    · have hc : mm_cc .eq x 0 = true := decide_eq_true h
      rw [hc] at hst
      cases hst
      exact go H locs ls hW hS hl
    · have hc : mm_cc .eq x 0 = false := decide_eq_false h
      rw [hc] at hst
      cases hst
      exact go H locs ls hW hS hl
  · cases hst
theorem ms_icmp_ne (C : mm_Cx D dA b h0 S p s m args meth c mi) (hW : mm_Wd D dA b h0 M H) (hS : va_S (mm_A h0) s.heap H locs) (hl : mm_lh b h0 ls L) (hs0 : s.heap.size + 1 = h0 + n0) (hn0 : n0 ≤ M.2.1) (hu0 : u0 ≤ M.2.2) {fr : mm_F} (hRc : fr.2.2.2.2.1 ≤ R.cells + n0) (hRs : fr.2.2.2.2.2 ≤ R.slots + u0) {off : Int} (hd : decode (mm_by mi) pc = .ok (.if_icmp .ne off, 3)) {x y : Int32} (hst : mm_br (mm_cc .ne x y) off pc L st M = some fr) (go : mm_Go p l e R s m args below meth c Q D dA b h0 n0 u0 fr) : W p l e R s m args below meth c H locs (M.2.1 - n0) (M.2.2 - u0) Q (F0 m pc ls ((.int y :: .int x :: st).map (mm_up b h0))) := by
  obtain ⟨hx, hb, hml, hrt, hlk, hown, hts, hnx, hK, hini, hX, hbl, hh0⟩ := C
  unfold mm_br at hst
  split at hst
  · next t ht =>
    refine lv_icmp_ne (x := x) (y := y) (tgt := t) (rest := st.map (mm_up b h0)) hx hb hd (mm_tg_spec ht) (fun h => ?_) (fun h => ?_)
    · have hc : mm_cc .ne x y = true := decide_eq_true h
      rw [hc] at hst
      cases hst
      exact go H locs ls hW hS hl
    · have hc : mm_cc .ne x y = false := decide_eq_false (fun q => q h)
      rw [hc] at hst
      cases hst
      exact go H locs ls hW hS hl
  · cases hst
theorem ms_if_ne (C : mm_Cx D dA b h0 S p s m args meth c mi) (hW : mm_Wd D dA b h0 M H) (hS : va_S (mm_A h0) s.heap H locs) (hl : mm_lh b h0 ls L) (hs0 : s.heap.size + 1 = h0 + n0) (hn0 : n0 ≤ M.2.1) (hu0 : u0 ≤ M.2.2) {fr : mm_F} (hRc : fr.2.2.2.2.1 ≤ R.cells + n0) (hRs : fr.2.2.2.2.2 ≤ R.slots + u0) {off : Int} (hd : decode (mm_by mi) pc = .ok (.ifCond .ne off, 3)) {x : Int32} (hst : mm_br (mm_cc .ne x 0) off pc L st M = some fr) (go : mm_Go p l e R s m args below meth c Q D dA b h0 n0 u0 fr) : W p l e R s m args below meth c H locs (M.2.1 - n0) (M.2.2 - u0) Q (F0 m pc ls ((.int x :: st).map (mm_up b h0))) := by
  obtain ⟨hx, hb, hml, hrt, hlk, hown, hts, hnx, hK, hini, hX, hbl, hh0⟩ := C
  unfold mm_br at hst
  split at hst
  · next t ht =>
    refine lv_if_ne (x := x) (tgt := t) (rest := st.map (mm_up b h0)) hx hb hd (mm_tg_spec ht) (fun h => ?_) (fun h => ?_)
    · have hc : mm_cc .ne x 0 = true := decide_eq_true h
      rw [hc] at hst
      cases hst
      exact go H locs ls hW hS hl
    · have hc : mm_cc .ne x 0 = false := decide_eq_false (fun q => q h)
      rw [hc] at hst
      cases hst
      exact go H locs ls hW hS hl
  · cases hst
theorem ms_icmp_lt (C : mm_Cx D dA b h0 S p s m args meth c mi) (hW : mm_Wd D dA b h0 M H) (hS : va_S (mm_A h0) s.heap H locs) (hl : mm_lh b h0 ls L) (hs0 : s.heap.size + 1 = h0 + n0) (hn0 : n0 ≤ M.2.1) (hu0 : u0 ≤ M.2.2) {fr : mm_F} (hRc : fr.2.2.2.2.1 ≤ R.cells + n0) (hRs : fr.2.2.2.2.2 ≤ R.slots + u0) {off : Int} (hd : decode (mm_by mi) pc = .ok (.if_icmp .lt off, 3)) {x y : Int32} (hst : mm_br (mm_cc .lt x y) off pc L st M = some fr) (go : mm_Go p l e R s m args below meth c Q D dA b h0 n0 u0 fr) : W p l e R s m args below meth c H locs (M.2.1 - n0) (M.2.2 - u0) Q (F0 m pc ls ((.int y :: .int x :: st).map (mm_up b h0))) := by
  obtain ⟨hx, hb, hml, hrt, hlk, hown, hts, hnx, hK, hini, hX, hbl, hh0⟩ := C
  unfold mm_br at hst
  split at hst
  · next t ht =>
    refine lv_icmp_lt (x := x) (y := y) (tgt := t) (rest := st.map (mm_up b h0)) hx hb hd (mm_tg_spec ht) (fun h => ?_) (fun h => ?_)
    · have hc : mm_cc .lt x y = true := decide_eq_true h
      rw [hc] at hst
      cases hst
      exact go H locs ls hW hS hl
    · have hc : mm_cc .lt x y = false := decide_eq_false h
      rw [hc] at hst
      cases hst
      exact go H locs ls hW hS hl
  · cases hst
theorem ms_if_lt (C : mm_Cx D dA b h0 S p s m args meth c mi) (hW : mm_Wd D dA b h0 M H) (hS : va_S (mm_A h0) s.heap H locs) (hl : mm_lh b h0 ls L) (hs0 : s.heap.size + 1 = h0 + n0) (hn0 : n0 ≤ M.2.1) (hu0 : u0 ≤ M.2.2) {fr : mm_F} (hRc : fr.2.2.2.2.1 ≤ R.cells + n0) (hRs : fr.2.2.2.2.2 ≤ R.slots + u0) {off : Int} (hd : decode (mm_by mi) pc = .ok (.ifCond .lt off, 3)) {x : Int32} (hst : mm_br (mm_cc .lt x 0) off pc L st M = some fr) (go : mm_Go p l e R s m args below meth c Q D dA b h0 n0 u0 fr) : W p l e R s m args below meth c H locs (M.2.1 - n0) (M.2.2 - u0) Q (F0 m pc ls ((.int x :: st).map (mm_up b h0))) := by
  obtain ⟨hx, hb, hml, hrt, hlk, hown, hts, hnx, hK, hini, hX, hbl, hh0⟩ := C
  unfold mm_br at hst
  split at hst
  · next t ht =>
    refine lv_if_lt (x := x) (tgt := t) (rest := st.map (mm_up b h0)) hx hb hd (mm_tg_spec ht) (fun h => ?_) (fun h => ?_)
    · have hc : mm_cc .lt x 0 = true := decide_eq_true h
      rw [hc] at hst
      cases hst
      exact go H locs ls hW hS hl
    · have hc : mm_cc .lt x 0 = false := decide_eq_false h
      rw [hc] at hst
      cases hst
      exact go H locs ls hW hS hl
  · cases hst
theorem ms_icmp_ge (C : mm_Cx D dA b h0 S p s m args meth c mi) (hW : mm_Wd D dA b h0 M H) (hS : va_S (mm_A h0) s.heap H locs) (hl : mm_lh b h0 ls L) (hs0 : s.heap.size + 1 = h0 + n0) (hn0 : n0 ≤ M.2.1) (hu0 : u0 ≤ M.2.2) {fr : mm_F} (hRc : fr.2.2.2.2.1 ≤ R.cells + n0) (hRs : fr.2.2.2.2.2 ≤ R.slots + u0) {off : Int} (hd : decode (mm_by mi) pc = .ok (.if_icmp .ge off, 3)) {x y : Int32} (hst : mm_br (mm_cc .ge x y) off pc L st M = some fr) (go : mm_Go p l e R s m args below meth c Q D dA b h0 n0 u0 fr) : W p l e R s m args below meth c H locs (M.2.1 - n0) (M.2.2 - u0) Q (F0 m pc ls ((.int y :: .int x :: st).map (mm_up b h0))) := by
  obtain ⟨hx, hb, hml, hrt, hlk, hown, hts, hnx, hK, hini, hX, hbl, hh0⟩ := C
  unfold mm_br at hst
  split at hst
  · next t ht =>
    refine lv_icmp_ge (x := x) (y := y) (tgt := t) (rest := st.map (mm_up b h0)) hx hb hd (mm_tg_spec ht) (fun h => ?_) (fun h => ?_)
    · have hc : mm_cc .ge x y = true := decide_eq_true h
      rw [hc] at hst
      cases hst
      exact go H locs ls hW hS hl
    · have hc : mm_cc .ge x y = false := decide_eq_false h
      rw [hc] at hst
      cases hst
      exact go H locs ls hW hS hl
  · cases hst
theorem ms_if_ge (C : mm_Cx D dA b h0 S p s m args meth c mi) (hW : mm_Wd D dA b h0 M H) (hS : va_S (mm_A h0) s.heap H locs) (hl : mm_lh b h0 ls L) (hs0 : s.heap.size + 1 = h0 + n0) (hn0 : n0 ≤ M.2.1) (hu0 : u0 ≤ M.2.2) {fr : mm_F} (hRc : fr.2.2.2.2.1 ≤ R.cells + n0) (hRs : fr.2.2.2.2.2 ≤ R.slots + u0) {off : Int} (hd : decode (mm_by mi) pc = .ok (.ifCond .ge off, 3)) {x : Int32} (hst : mm_br (mm_cc .ge x 0) off pc L st M = some fr) (go : mm_Go p l e R s m args below meth c Q D dA b h0 n0 u0 fr) : W p l e R s m args below meth c H locs (M.2.1 - n0) (M.2.2 - u0) Q (F0 m pc ls ((.int x :: st).map (mm_up b h0))) := by
  obtain ⟨hx, hb, hml, hrt, hlk, hown, hts, hnx, hK, hini, hX, hbl, hh0⟩ := C
  unfold mm_br at hst
  split at hst
  · next t ht =>
    refine lv_if_ge (x := x) (tgt := t) (rest := st.map (mm_up b h0)) hx hb hd (mm_tg_spec ht) (fun h => ?_) (fun h => ?_)
    · have hc : mm_cc .ge x 0 = true := decide_eq_true h
      rw [hc] at hst
      cases hst
      exact go H locs ls hW hS hl
    · have hc : mm_cc .ge x 0 = false := decide_eq_false h
      rw [hc] at hst
      cases hst
      exact go H locs ls hW hS hl
  · cases hst
theorem ms_icmp_gt (C : mm_Cx D dA b h0 S p s m args meth c mi) (hW : mm_Wd D dA b h0 M H) (hS : va_S (mm_A h0) s.heap H locs) (hl : mm_lh b h0 ls L) (hs0 : s.heap.size + 1 = h0 + n0) (hn0 : n0 ≤ M.2.1) (hu0 : u0 ≤ M.2.2) {fr : mm_F} (hRc : fr.2.2.2.2.1 ≤ R.cells + n0) (hRs : fr.2.2.2.2.2 ≤ R.slots + u0) {off : Int} (hd : decode (mm_by mi) pc = .ok (.if_icmp .gt off, 3)) {x y : Int32} (hst : mm_br (mm_cc .gt x y) off pc L st M = some fr) (go : mm_Go p l e R s m args below meth c Q D dA b h0 n0 u0 fr) : W p l e R s m args below meth c H locs (M.2.1 - n0) (M.2.2 - u0) Q (F0 m pc ls ((.int y :: .int x :: st).map (mm_up b h0))) := by
  obtain ⟨hx, hb, hml, hrt, hlk, hown, hts, hnx, hK, hini, hX, hbl, hh0⟩ := C
  unfold mm_br at hst
  split at hst
  · next t ht =>
    refine lv_icmp_gt (x := x) (y := y) (tgt := t) (rest := st.map (mm_up b h0)) hx hb hd (mm_tg_spec ht) (fun h => ?_) (fun h => ?_)
    · have hc : mm_cc .gt x y = true := decide_eq_true h
      rw [hc] at hst
      cases hst
      exact go H locs ls hW hS hl
    · have hc : mm_cc .gt x y = false := decide_eq_false h
      rw [hc] at hst
      cases hst
      exact go H locs ls hW hS hl
  · cases hst
theorem ms_if_gt (C : mm_Cx D dA b h0 S p s m args meth c mi) (hW : mm_Wd D dA b h0 M H) (hS : va_S (mm_A h0) s.heap H locs) (hl : mm_lh b h0 ls L) (hs0 : s.heap.size + 1 = h0 + n0) (hn0 : n0 ≤ M.2.1) (hu0 : u0 ≤ M.2.2) {fr : mm_F} (hRc : fr.2.2.2.2.1 ≤ R.cells + n0) (hRs : fr.2.2.2.2.2 ≤ R.slots + u0) {off : Int} (hd : decode (mm_by mi) pc = .ok (.ifCond .gt off, 3)) {x : Int32} (hst : mm_br (mm_cc .gt x 0) off pc L st M = some fr) (go : mm_Go p l e R s m args below meth c Q D dA b h0 n0 u0 fr) : W p l e R s m args below meth c H locs (M.2.1 - n0) (M.2.2 - u0) Q (F0 m pc ls ((.int x :: st).map (mm_up b h0))) := by
  obtain ⟨hx, hb, hml, hrt, hlk, hown, hts, hnx, hK, hini, hX, hbl, hh0⟩ := C
  unfold mm_br at hst
  split at hst
  · next t ht =>
    refine lv_if_gt (x := x) (tgt := t) (rest := st.map (mm_up b h0)) hx hb hd (mm_tg_spec ht) (fun h => ?_) (fun h => ?_)
    · have hc : mm_cc .gt x 0 = true := decide_eq_true h
      rw [hc] at hst
      cases hst
      exact go H locs ls hW hS hl
    · have hc : mm_cc .gt x 0 = false := decide_eq_false h
      rw [hc] at hst
      cases hst
      exact go H locs ls hW hS hl
  · cases hst
theorem ms_icmp_le (C : mm_Cx D dA b h0 S p s m args meth c mi) (hW : mm_Wd D dA b h0 M H) (hS : va_S (mm_A h0) s.heap H locs) (hl : mm_lh b h0 ls L) (hs0 : s.heap.size + 1 = h0 + n0) (hn0 : n0 ≤ M.2.1) (hu0 : u0 ≤ M.2.2) {fr : mm_F} (hRc : fr.2.2.2.2.1 ≤ R.cells + n0) (hRs : fr.2.2.2.2.2 ≤ R.slots + u0) {off : Int} (hd : decode (mm_by mi) pc = .ok (.if_icmp .le off, 3)) {x y : Int32} (hst : mm_br (mm_cc .le x y) off pc L st M = some fr) (go : mm_Go p l e R s m args below meth c Q D dA b h0 n0 u0 fr) : W p l e R s m args below meth c H locs (M.2.1 - n0) (M.2.2 - u0) Q (F0 m pc ls ((.int y :: .int x :: st).map (mm_up b h0))) := by
  obtain ⟨hx, hb, hml, hrt, hlk, hown, hts, hnx, hK, hini, hX, hbl, hh0⟩ := C
  unfold mm_br at hst
  split at hst
  · next t ht =>
    refine lv_icmp_le (x := x) (y := y) (tgt := t) (rest := st.map (mm_up b h0)) hx hb hd (mm_tg_spec ht) (fun h => ?_) (fun h => ?_)
    · have hc : mm_cc .le x y = true := decide_eq_true h
      rw [hc] at hst
      cases hst
      exact go H locs ls hW hS hl
    · have hc : mm_cc .le x y = false := decide_eq_false h
      rw [hc] at hst
      cases hst
      exact go H locs ls hW hS hl
  · cases hst
theorem ms_if_le (C : mm_Cx D dA b h0 S p s m args meth c mi) (hW : mm_Wd D dA b h0 M H) (hS : va_S (mm_A h0) s.heap H locs) (hl : mm_lh b h0 ls L) (hs0 : s.heap.size + 1 = h0 + n0) (hn0 : n0 ≤ M.2.1) (hu0 : u0 ≤ M.2.2) {fr : mm_F} (hRc : fr.2.2.2.2.1 ≤ R.cells + n0) (hRs : fr.2.2.2.2.2 ≤ R.slots + u0) {off : Int} (hd : decode (mm_by mi) pc = .ok (.ifCond .le off, 3)) {x : Int32} (hst : mm_br (mm_cc .le x 0) off pc L st M = some fr) (go : mm_Go p l e R s m args below meth c Q D dA b h0 n0 u0 fr) : W p l e R s m args below meth c H locs (M.2.1 - n0) (M.2.2 - u0) Q (F0 m pc ls ((.int x :: st).map (mm_up b h0))) := by
  obtain ⟨hx, hb, hml, hrt, hlk, hown, hts, hnx, hK, hini, hX, hbl, hh0⟩ := C
  unfold mm_br at hst
  split at hst
  · next t ht =>
    refine lv_if_le (x := x) (tgt := t) (rest := st.map (mm_up b h0)) hx hb hd (mm_tg_spec ht) (fun h => ?_) (fun h => ?_)
    · have hc : mm_cc .le x 0 = true := decide_eq_true h
      rw [hc] at hst
      cases hst
      exact go H locs ls hW hS hl
    · have hc : mm_cc .le x 0 = false := decide_eq_false h
      rw [hc] at hst
      cases hst
      exact go H locs ls hW hS hl
  · cases hst
theorem ms_goto (C : mm_Cx D dA b h0 S p s m args meth c mi) (hW : mm_Wd D dA b h0 M H) (hS : va_S (mm_A h0) s.heap H locs) (hl : mm_lh b h0 ls L) (hs0 : s.heap.size + 1 = h0 + n0) (hn0 : n0 ≤ M.2.1) (hu0 : u0 ≤ M.2.2) {fr : mm_F} (hRc : fr.2.2.2.2.1 ≤ R.cells + n0) (hRs : fr.2.2.2.2.2 ≤ R.slots + u0) {off : Int} (hd : decode (mm_by mi) pc = .ok (.goto off, 3)) (hst : mm_br true off pc L st M = some fr) (go : mm_Go p l e R s m args below meth c Q D dA b h0 n0 u0 fr) : W p l e R s m args below meth c H locs (M.2.1 - n0) (M.2.2 - u0) Q (F0 m pc ls (st.map (mm_up b h0))) := by
  obtain ⟨hx, hb, hml, hrt, hlk, hown, hts, hnx, hK, hini, hX, hbl, hh0⟩ := C
  unfold mm_br at hst
  split at hst
  · next t ht =>
    cases hst
    exact lv_goto (tgt := t) (rest := st.map (mm_up b h0)) hx hb hd (mm_tg_spec ht) (go H locs ls hW hS hl)
  · cases hst
theorem ms_ts (C : mm_Cx D dA b h0 S p s m args meth c mi) (hW : mm_Wd D dA b h0 M H) (hS : va_S (mm_A h0) s.heap H locs) (hl : mm_lh b h0 ls L) (hs0 : s.heap.size + 1 = h0 + n0) (hn0 : n0 ≤ M.2.1) (hu0 : u0 ≤ M.2.2) {fr : mm_F} (hRc : fr.2.2.2.2.1 ≤ R.cells + n0) (hRs : fr.2.2.2.2.2 ≤ R.slots + u0) {d lo hi : Int} {offs : Array Int} {len : Nat} (hd : decode (mm_by mi) pc = .ok (.tableswitch d lo hi offs, len)) (hst : mm_ts d lo hi offs pc L st M = some fr) (go : mm_Go p l e R s m args below meth c Q D dA b h0 n0 u0 fr) : W p l e R s m args below meth c H locs (M.2.1 - n0) (M.2.2 - u0) Q (F0 m pc ls (st.map (mm_up b h0))) := by
  obtain ⟨hx, hb, hml, hrt, hlk, hown, hts, hnx, hK, hini, hX, hbl, hh0⟩ := C
  unfold mm_ts at hst
  split at hst
  · next x r =>
    split at hst
    · next ho =>
      split at hst
      · next t ht =>
        cases hst
        exact lv_tableOut (x := x) (tgt := t) (rest := r.map (mm_up b h0)) hx hb hd ho (mm_tg_spec ht) (go H locs ls hW hS hl)
      · cases hst
    · next ho =>
      split at hst
      · next off hoff =>
        split at hst
        · next t ht =>
          cases hst
          exact lv_tableIn (x := x) (tgt := t) (rest := r.map (mm_up b h0)) hx hb hd (fun q => ho (Or.inl q)) (fun q => ho (Or.inr q)) hoff (mm_tg_spec ht) (go H locs ls hW hS hl)
        · cases hst
      · cases hst
  · cases hst
theorem ms_lw (C : mm_Cx D dA b h0 S p s m args meth c mi) (hW : mm_Wd D dA b h0 M H) (hS : va_S (mm_A h0) s.heap H locs) (hl : mm_lh b h0 ls L) (hs0 : s.heap.size + 1 = h0 + n0) (hn0 : n0 ≤ M.2.1) (hu0 : u0 ≤ M.2.2) {fr : mm_F} (hRc : fr.2.2.2.2.1 ≤ R.cells + n0) (hRs : fr.2.2.2.2.2 ≤ R.slots + u0) {d : Int} {ps : Array (Int × Int)} {len : Nat} (hd : decode (mm_by mi) pc = .ok (.lookupswitch d ps, len)) (hst : mm_lw d ps pc L st M = some fr) (go : mm_Go p l e R s m args below meth c Q D dA b h0 n0 u0 fr) : W p l e R s m args below meth c H locs (M.2.1 - n0) (M.2.2 - u0) Q (F0 m pc ls (st.map (mm_up b h0))) := by
  obtain ⟨hx, hb, hml, hrt, hlk, hown, hts, hnx, hK, hini, hX, hbl, hh0⟩ := C
  unfold mm_lw at hst
  split at hst
  · next x r =>
    split at hst
    · next ho =>
      split at hst
      · next t ht =>
        cases hst
        exact lv_lookup (x := x) (tgt := t) (rest := r.map (mm_up b h0)) hx hb hd ho rfl (mm_tg_spec ht) (go H locs ls hW hS hl)
      · cases hst
    · cases hst
  · cases hst
end MMS
