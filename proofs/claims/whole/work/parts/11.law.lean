-- ===== end of PART A; then your names; then what follows =====
/-! THE CLAIM OUT OF ONE WALK OF THE LAW'S BODY. Your part is whole_start (and what it stands on); all else here is the same for every law, but numbers. -/
def R_law : String := "MaskDeskLaw"
def lw_P (b : Addr) (xs : List Int32) (args : Array Value) (s : State) : Prop := args = #[.ref b] ∧ s.IntsAt b xs ∧ xs.length ≤ 3072 ∧ (Jvm.Cond.and given_1 narrow_1).before args s = true
def lw_Q (_ : Array Value) (s : State) (o : Outcome) (t : State) : Prop := o = .returned (some (.int 1)) ∧ Framed s o t [] 600000 7302249
def lw_Z (below : List Frame) (a : Array Value) (s : State) : State → Prop := fun t => ∃ o, t.status = .running ∧ Ended t below o ∧ lw_Q a s o t
/-- the law's own end, with 1 on the stack, nothing written that was there before, its room as the claim has it -/
theorem lw_ret {p : Program} {l : Launch} {e : Env} {s : State} {m : MethodId} {below : List Frame} {meth : Method} {c : Code} {b : Nat} (hx : p.tables.exec = Jvm.exec) (hb : c.code = code) (hr : meth.sig.returnType = ret) (hlocks : meth.locks = false) {pc : Nat} {H : Heap} {ls : Array Slot} (hdg : decode code pc = .ok (.ireturn, 1)) : W p l e room_1 s m #[Value.ref b] below meth c H [] 600000 7302249 (lw_Z below #[Value.ref b] s) (F0 m pc ls [.int 1]) := by
  intro T hT X
  obtain ⟨fs, hret, hrun, hended, hW, hframe⟩ := X.leave (v := some (.int 1)) (hlocks := hlocks) (fun h => by rw [hr] at h; cases h)
  have hmeth' : T.vm.method? m = some meth := X.method'
  refine ⟨T.setFrames fs, ?_, .returned (some (.int 1)), hrun, hended, rfl, ⟨_, rfl⟩, hW, hframe⟩
  jvm_step X.here [X.here.top, hx, hb, hdg, hmeth', hr, ret, narrow_b1]
  (try refine ⟨rfl, ?_⟩); (try refine ⟨rfl, ?_⟩)
  first | (intro acts; rw [hret _ acts rfl rfl rfl]) | rw [hret _ _ rfl rfl rfl]
  exact Steps.refl _
/-- what holds at the law's entry: the machine, the code, the tables' words (any of lw_tbl by 'hts w (by decide +kernel)'), the script of L ints xs at the cell b, what the Statement gives of the start (any of its parts by flat_of_before) -/
def lw_At (p : Program) (s : State) (m : MethodId) (meth : Method) (c : Code) (b L : Nat) (xs : Nat → Int32) : Prop :=
  p.tables.exec = Jvm.exec ∧ c.code = code ∧ meth.sig.returnType = ret ∧ c.maxLocals = 4 ∧ s.vm.findClass R_law = some m.cls ∧ (∀ w ∈ lw_tbl, w.before #[Value.ref b] s = true) ∧ va_X b L xs s s.heap ∧ b < s.heap.size ∧ meth.locks = false ∧ (Jvm.Cond.and given_1 narrow_1).before #[Value.ref b] s = true

/-! ===== THE CLAIM OUT OF THE SMALL MACHINE: what is left is mm_Law, a word of numbers and cells alone ===== -/
def mm_M0 : mm_M := (fun _ => none, 1, 0)
/-- on every script the law's own run in the small machine ends with 1, within the claim's room -/
def mm_Law : Prop := ∀ (L : Nat) (xs : Nat → Int32), L ≤ 3072 → ∃ (n d : Nat) (M' : mm_M), mm_ex (L, xs) n d 0 0 (mm_en 0 [.ref 0]) [] mm_M0 = some (some (.int 1), M') ∧ d ≤ 1000 ∧ M'.2.1 ≤ 600001 ∧ M'.2.2 ≤ 7302249
theorem mm_ovC : (Cond.arrayOver (.object "MaskDesk$Cells") : Cond) ∈ lw_tbl := mm_at_in (p := 88) (by decide +kernel)
theorem mm_ovP : (Cond.arrayOver (.object "MaskDesk$Part") : Cond) ∈ lw_tbl := mm_at_in (p := 122) (by decide +kernel)
theorem mm_known {s : State} {args : Array Value} (hts : ∀ w ∈ lw_tbl, w.before args s = true) : ∃ (D : va_G) (dA : Nat → ClassId), va_K D vwCl (mm_tys dA) s := by
  have hts' : ∀ w ∈ mm_tb, w.before args s = true := fun w hw => hts w (List.mem_filter.mp hw).1
  have key : ∀ k : Nat, ∃ x : ClassId × (Nat → Nat), ∀ q : vw_C, vwCl[k]? = some q → u_Kn s q.1 q.2.1 q.2.2 x.1 x.2 := by
    intro k
    by_cases hk : k < 13
    · obtain ⟨g1, g2, g3, g4, g5, g6, g7, g8⟩ := mm_cl_ok hk
      obtain ⟨cC, iS, hKn⟩ := u_known (C := mm_cn k) (T := mm_T k) (N := mm_N k) (n := mm_N k) hts' g2 (hts' _ g7)
      exact ⟨(cC, iS), fun q hq => by rw [g1] at hq; cases hq; exact hKn⟩
    · exact ⟨(0, fun _ => 0), fun q hq => absurd (List.getElem?_eq_some_iff.mp hq).1 hk⟩
  obtain ⟨f, hf⟩ := Classical.axiomOfChoice key
  obtain ⟨c0, k0, p0, a1, a2, a3⟩ := Cond.arrayClass_spec (hts' _ mm_ac0)
  obtain ⟨c1, k1, p1, b1, b2, b3⟩ := Cond.arrayClass_spec (hts' _ mm_ac1)
  obtain ⟨p2, c2, k2, d1, -, d2, d3, d4⟩ := Cond.arrayOver_spec (hts _ mm_ovC)
  obtain ⟨p3, c3, k3, e1, -, e2, e3, e4⟩ := Cond.arrayOver_spec (hts _ mm_ovP)
  refine ⟨(fun k => (f k).1, fun k => (f k).2), fun t => match t with | 0 => c0 | 1 => c1 | 2 => c2 | _ => c3, fun k q hq => hf k q hq, fun k q hq => ?_⟩
  match k, hq with
  | 0, hq => cases hq; exact ⟨fun n z => ⟨fun k h => (by cases h), k0, a2, p0, a3⟩, a1⟩
  | 1, hq => cases hq; exact ⟨fun n z => ⟨fun k h => (by cases h), k1, b2, p1, b3⟩, b1⟩
  | 2, hq => cases hq; exact ⟨fun n z => ⟨fun k h => (by cases h), k2, d2, p2, d3⟩, k2, p2, d2, d3, d1, d4⟩
  | 3, hq => cases hq; exact ⟨fun n z => ⟨fun k h => (by cases h), k3, e2, p3, e3⟩, k3, p3, e2, e3, e1, e4⟩
set_option maxHeartbeats 4000000 in
theorem whole_open (hlaw : mm_Law) {p : Program} {e : Env} {s : State} {m : MethodId} {below : List Frame} {meth : Method} {c : Code} (l : Launch) {b L : Nat} {xs : Nat → Int32} (hL : L ≤ 3072) (C0 : lw_At p s m meth c b L xs) : W p l e room_1 s m #[Value.ref b] below meth c s.heap [] 0 0 (lw_Z below #[Value.ref b] s) (entryFrame m ([Value.ref b] : List Value).toArray 4) := by
  obtain ⟨hx, hb, hr, hml, hown, hts, hX, hbl, hlocks, hgv⟩ := id C0
  obtain ⟨n, d, M', hex, hd, hm1, hm2⟩ := hlaw L xs hL
  obtain ⟨D, dA, hK⟩ := mm_known hts
  have C : mm_Cx D dA b s.heap.size (L, xs) p s m #[Value.ref b] meth c 0 := ⟨hx, hb, hml, hr, hlocks, hown, fun w hw => hts w (List.mem_filter.mp hw).1, ⟨fun a i x h hw => va_Nw.of rfl (hts _ hw), fun C hw => va_AO.of (hts _ hw)⟩, hK, fun h => absurd h (by decide), hX, hbl, Nat.le_refl _⟩
  have hW : mm_Wd D dA b s.heap.size mm_M0 s.heap := ⟨⟨Nat.le_refl 1, rfl⟩, fun k c h => (by cases h), fun k h1 h2 => (by have h3 : k < 1 := h2; omega), fun k q h => (by cases h)⟩
  rw [entry_eq m [Value.ref b] (fun v hv => by rw [List.mem_singleton.mp hv]; rfl) 4]
  have hl : mm_lh b s.heap.size (([Value.ref b].map Slot.val ++ List.replicate (4 - [Value.ref b].length) Slot.unset).toArray) (mm_en 0 [.ref 0]) := mm_lh_entry (b := b) (h0 := s.heap.size) (as := [.ref 0]) (n := 4) (fun v hv => by rw [List.mem_singleton.mp hv]; rfl) (by decide)
  have mono := mm_mono _ _ _ _ _ _ _ _ _ _ hex
  have g := mm_sim l D dA b s.heap.size (L, xs) hbl n d 0 0 (mm_en 0 [.ref 0]) [] mm_M0 (some (.int 1)) M' hex p e room_1 s m #[Value.ref b] below meth c (lw_Z below #[Value.ref b] s) s.heap [] _ 1 0 C hW va_S.rf hl rfl rfl (Nat.le_refl 1) (Nat.le_refl 0) hm1 hm2 (Nat.le_trans hd (by decide)) (Nat.le_trans (Nat.mul_le_mul_left 60 hd) (by decide)) (fun pc' ls' st' i' len' H' locs' hd' hln' hrv' hW' hS' => ?_)
  · exact g
  · have hst : st' = [.int 1] ∧ i' = .ireturn := by
      unfold mm_rv at hrv'
      split at hrv'
      · cases hrv'; exact ⟨rfl, rfl⟩
      · split at hrv'
        · cases hrv'; exact ⟨rfl, rfl⟩
        · cases hrv'
      · cases hrv'
      · cases hrv'
      · cases hrv'
    obtain ⟨rfl, rfl⟩ := hst
    have hn := eq_of_beq (show (len' == 1) = true from hln')
    subst hn
    refine va_forget (fun q hq => hS'.2.2 q hq) ?_
    refine W.widen (k := 600000) (n := 7302249) (by omega) (by omega) ?_
    exact lw_ret hx hb hr hlocks hd'
