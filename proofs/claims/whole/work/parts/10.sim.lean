/-! ===== the small machine's run is the machine's run ===== -/
def mm_o2 (L : mm_L) (M : mm_M) (fr : mm_F) : Prop := M.2.1 ≤ fr.2.2.2.2.1 ∧ M.2.2 ≤ fr.2.2.2.2.2 ∧ fr.2.1.length = L.length
theorem mo_ldi {k len pc : Nat} {L : mm_L} {st : List Value} {M : mm_M} {fr : mm_F} (h : mm_ldi k len pc L st M = some fr) : mm_o2 L M fr := by
  unfold mm_ldi at h
  repeat' split at h
  all_goals first | (cases h; done) | (cases h; exact ⟨by simp [mm_put, mm_add], by simp [mm_put, mm_add], by simp⟩)
theorem mo_lda {k len pc : Nat} {L : mm_L} {st : List Value} {M : mm_M} {fr : mm_F} (h : mm_lda k len pc L st M = some fr) : mm_o2 L M fr := by
  unfold mm_lda at h
  repeat' split at h
  all_goals first | (cases h; done) | (cases h; exact ⟨by simp [mm_put, mm_add], by simp [mm_put, mm_add], by simp⟩)
theorem mo_sti {k len pc : Nat} {L : mm_L} {st : List Value} {M : mm_M} {fr : mm_F} (h : mm_sti k len pc L st M = some fr) : mm_o2 L M fr := by
  unfold mm_sti at h
  repeat' split at h
  all_goals first | (cases h; done) | (cases h; exact ⟨by simp [mm_put, mm_add], by simp [mm_put, mm_add], by simp⟩)
theorem mo_sta {k len pc : Nat} {L : mm_L} {st : List Value} {M : mm_M} {fr : mm_F} (h : mm_sta k len pc L st M = some fr) : mm_o2 L M fr := by
  unfold mm_sta at h
  repeat' split at h
  all_goals first | (cases h; done) | (cases h; exact ⟨by simp [mm_put, mm_add], by simp [mm_put, mm_add], by simp⟩)
theorem mo_inc {k : Nat} {n : Int} {pc : Nat} {L : mm_L} {st : List Value} {M : mm_M} {fr : mm_F} (h : mm_inc k n pc L st M = some fr) : mm_o2 L M fr := by
  unfold mm_inc at h
  repeat' split at h
  all_goals first | (cases h; done) | (cases h; exact ⟨by simp [mm_put, mm_add], by simp [mm_put, mm_add], by simp⟩)
theorem mo_b2 {f : Int32 → Int32 → Int32} {pc : Nat} {L : mm_L} {st : List Value} {M : mm_M} {fr : mm_F} (h : mm_b2 f pc L st M = some fr) : mm_o2 L M fr := by
  unfold mm_b2 at h
  repeat' split at h
  all_goals first | (cases h; done) | (cases h; exact ⟨by simp [mm_put, mm_add], by simp [mm_put, mm_add], by simp⟩)
theorem mo_b3 {f : Int32 → Int32 → Int32} {pc : Nat} {L : mm_L} {st : List Value} {M : mm_M} {fr : mm_F} (h : mm_b3 f pc L st M = some fr) : mm_o2 L M fr := by
  unfold mm_b3 at h
  repeat' split at h
  all_goals first | (cases h; done) | (cases h; exact ⟨by simp [mm_put, mm_add], by simp [mm_put, mm_add], by simp⟩)
theorem mo_br {bb : Bool} {off : Int} {pc : Nat} {L : mm_L} {st : List Value} {M : mm_M} {fr : mm_F} (h : mm_br bb off pc L st M = some fr) : mm_o2 L M fr := by
  unfold mm_br at h
  repeat' split at h
  all_goals first | (cases h; done) | (cases h; exact ⟨by simp [mm_put, mm_add], by simp [mm_put, mm_add], by simp⟩)
theorem mo_ia {t : Nat} {S : mm_S} {pc : Nat} {L : mm_L} {st : List Value} {M : mm_M} {fr : mm_F} (h : mm_ia t S pc L st M = some fr) : mm_o2 L M fr := by
  unfold mm_ia at h
  repeat' split at h
  all_goals first | (cases h; done) | (cases h; exact ⟨by simp [mm_put, mm_add], by simp [mm_put, mm_add], by simp⟩)
theorem mo_aa {pc : Nat} {L : mm_L} {st : List Value} {M : mm_M} {fr : mm_F} (h : mm_aa pc L st M = some fr) : mm_o2 L M fr := by
  unfold mm_aa at h
  repeat' split at h
  all_goals first | (cases h; done) | (cases h; exact ⟨by simp [mm_put, mm_add], by simp [mm_put, mm_add], by simp⟩)
theorem mo_is {t pc : Nat} {L : mm_L} {st : List Value} {M : mm_M} {fr : mm_F} (h : mm_is t pc L st M = some fr) : mm_o2 L M fr := by
  unfold mm_is at h
  repeat' split at h
  all_goals first | (cases h; done) | (cases h; exact ⟨by simp [mm_put, mm_add], by simp [mm_put, mm_add], by simp⟩)
theorem mo_as {pc : Nat} {L : mm_L} {st : List Value} {M : mm_M} {fr : mm_F} (h : mm_as pc L st M = some fr) : mm_o2 L M fr := by
  unfold mm_as at h
  repeat' split at h
  all_goals first | (cases h; done) | (cases h; exact ⟨by simp [mm_put, mm_add], by simp [mm_put, mm_add], by simp⟩)
theorem mo_al {S : mm_S} {pc : Nat} {L : mm_L} {st : List Value} {M : mm_M} {fr : mm_F} (h : mm_al S pc L st M = some fr) : mm_o2 L M fr := by
  unfold mm_al at h
  repeat' split at h
  all_goals first | (cases h; done) | (cases h; exact ⟨by simp [mm_put, mm_add], by simp [mm_put, mm_add], by simp⟩)
theorem mo_gf {o k pc : Nat} {L : mm_L} {st : List Value} {M : mm_M} {fr : mm_F} (h : mm_gf o k pc L st M = some fr) : mm_o2 L M fr := by
  unfold mm_gf at h
  repeat' split at h
  all_goals first | (cases h; done) | (cases h; exact ⟨by simp [mm_put, mm_add], by simp [mm_put, mm_add], by simp⟩)
theorem mo_pf {o k : Nat} {ini : Bool} {pc : Nat} {L : mm_L} {st : List Value} {M : mm_M} {fr : mm_F} (h : mm_pf o k ini pc L st M = some fr) : mm_o2 L M fr := by
  unfold mm_pf at h
  repeat' split at h
  all_goals first | (cases h; done) | (cases h; exact ⟨by simp [mm_put, mm_add], by simp [mm_put, mm_add], by simp⟩)
theorem mo_nw {o k pc : Nat} {L : mm_L} {st : List Value} {M : mm_M} {fr : mm_F} (h : mm_nw o k pc L st M = some fr) : mm_o2 L M fr := by
  unfold mm_nw at h
  repeat' split at h
  all_goals first | (cases h; done) | (cases h; exact ⟨by simp [mm_put, mm_add], by simp [mm_put, mm_add], by simp⟩)
theorem mo_na {t pc : Nat} {L : mm_L} {st : List Value} {M : mm_M} {fr : mm_F} (h : mm_na t pc L st M = some fr) : mm_o2 L M fr := by
  unfold mm_na at h
  repeat' split at h
  all_goals first | (cases h; done) | (cases h; exact ⟨by simp [mm_put, mm_add], by simp [mm_put, mm_add], by simp⟩)
theorem mo_an {o k pc : Nat} {L : mm_L} {st : List Value} {M : mm_M} {fr : mm_F} (h : mm_an o k pc L st M = some fr) : mm_o2 L M fr := by
  unfold mm_an at h
  repeat' split at h
  all_goals first | (cases h; done) | (cases h; exact ⟨by simp [mm_put, mm_add], by simp [mm_put, mm_add], by simp⟩)
theorem mo_ts {d lo hi : Int} {offs : Array Int} {pc : Nat} {L : mm_L} {st : List Value} {M : mm_M} {fr : mm_F} (h : mm_ts d lo hi offs pc L st M = some fr) : mm_o2 L M fr := by
  unfold mm_ts at h
  repeat' split at h
  all_goals first | (cases h; done) | (cases h; exact ⟨by simp [mm_put, mm_add], by simp [mm_put, mm_add], by simp⟩)
theorem mo_lw {d : Int} {ps : Array (Int × Int)} {pc : Nat} {L : mm_L} {st : List Value} {M : mm_M} {fr : mm_F} (h : mm_lw d ps pc L st M = some fr) : mm_o2 L M fr := by
  unfold mm_lw at h
  repeat' split at h
  all_goals first | (cases h; done) | (cases h; exact ⟨by simp [mm_put, mm_add], by simp [mm_put, mm_add], by simp⟩)
theorem mm_st_mono {o : Nat} {ini : Bool} {S : mm_S} {i : Instr} {pc : Nat} {L : mm_L} {st : List Value} {M : mm_M} {fr : mm_F} (h : mm_st o ini S i pc L st M = some fr) : mm_o2 L M fr := by
  unfold mm_st at h
  split at h
  all_goals first
    | exact mo_ldi h
    | exact mo_lda h
    | exact mo_sti h
    | exact mo_sta h
    | exact mo_inc h
    | exact mo_b2 h
    | exact mo_b3 h
    | exact mo_br h
    | exact mo_ia h
    | exact mo_aa h
    | exact mo_is h
    | exact mo_as h
    | exact mo_al h
    | exact mo_gf h
    | exact mo_pf h
    | exact mo_nw h
    | exact mo_na h
    | exact mo_an h
    | exact mo_ts h
    | exact mo_lw h
    | (cases h; done)
    | (cases h; exact ⟨Nat.le_refl _, Nat.le_refl _, rfl⟩)
    | (split at h <;> first | (cases h; done) | (cases h; exact ⟨Nat.le_refl _, Nat.le_refl _, rfl⟩) | exact mo_br h | (split at h <;> first | (cases h; done) | (cases h; exact ⟨Nat.le_refl _, Nat.le_refl _, rfl⟩)))
theorem mm_mono (S : mm_S) : ∀ (n d mi pc : Nat) (L : mm_L) (st : List Value) (M : mm_M) (v : Option Value) (M' : mm_M), mm_ex S n d mi pc L st M = some (v, M') → M.2.1 ≤ M'.2.1 ∧ M.2.2 ≤ M'.2.2 := by
  intro n
  induction n with
  | zero => intro d mi pc L st M v M' h; cases h
  | succ n ih =>
    intro d mi pc L st M v M' h
    unfold mm_ex at h
    split at h
    · cases h
    · split at h
      · split at h
        · cases h
        · split at h
          · cases h
          · next v1 M1 hc =>
            have h1 := ih _ _ _ _ _ _ _ _ hc
            have h2 := ih _ _ _ _ _ _ _ _ h
            exact ⟨Nat.le_trans h1.1 h2.1, Nat.le_trans h1.2 h2.2⟩
      · split at h
        · cases h
          exact ⟨Nat.le_refl _, Nat.le_refl _⟩
        · split at h
          · exact ih _ _ _ _ _ _ _ _ h
          · split at h
            · cases h
            · next hst =>
              have h1 := mm_st_mono hst
              have h2 := ih _ _ _ _ _ _ _ _ h
              exact ⟨Nat.le_trans h1.1 h2.1, Nat.le_trans h1.2.1 h2.2⟩
def mm_Qc (D : va_G) (dA : Nat → ClassId) (b h0 : Nat) (v : Option Value) (M' : mm_M) : Array Value → State → Outcome → State → Prop := fun _ st oc t => (oc = .returned (v.map (mm_up b h0)) ∧ mm_Wd D dA b h0 M' t.heap) ∧ va_F (mm_A h0) st t
def mm_Pc (D : va_G) (dA : Nat → ClassId) (b h0 : Nat) (S : mm_S) (as : List Value) (M : mm_M) : Array Value → State → Prop := va_Pc (as.map (mm_up b h0)) (fun U => mm_Wd D dA b h0 M U.heap ∧ va_K D vwCl (mm_tys dA) U ∧ mm_Nx U ∧ va_X b S.1 S.2 U U.heap ∧ h0 ≤ U.heap.size)
theorem mm_Pc_blind {D : va_G} {dA : Nat → ClassId} {b h0 : Nat} {S : mm_S} {as : List Value} {M : mm_M} : FrameBlind (mm_Pc D dA b h0 S as M) := fun a U g mk q => by
  obtain ⟨q0, q1, q2, q3, q4, q5⟩ := q
  exact ⟨q0, q1, va_K.moved (u := U) (U := U.calling g mk a) (Vm.Alike.refl U.vm) q2, ⟨fun a' i x h hw => va_Nw.same (u := U) (U := U.calling g mk a) rfl rfl (q3.1 a' i x h hw), fun C hw => va_AO.moved (u := U) (U := U.calling g mk a) (Vm.Alike.refl U.vm) (q3.2 C hw)⟩, va_X.moved (u := U) (U := U.calling g mk a) (Vm.Alike.refl U.vm) q4, q5⟩
section MMC
variable {p : Program} {l : Launch} {e : Env} {R : Room} {s : State} {m : MethodId} {args : Array Value} {below : List Frame} {meth : Method} {c : Code} {H : Heap} {locs : List Loc} {Q : State → Prop} {D : va_G} {dA : Nat → ClassId} {b h0 : Nat} {S : mm_S} {mi pc n0 u0 : Nat} {ls : Array Slot} {L : mm_L} {st : List Value} {M : mm_M}
theorem mm_cont {cells slots mc ms : Nat} {a : Array Value} {rest st0 : List Value} {v : Option Value} {M1 : mm_M} (hr : va_Run p l e R s m args below meth c H locs cells slots mc ms (F0 m pc ls st0) rest (mm_Qc D dA b h0 v M1 a) (mm_A h0)) (hS : va_S (mm_A h0) s.heap H locs)
    (kk : ∀ (H1 : Heap) (locs1 : List Loc), mm_Wd D dA b h0 M1 H1 → va_S (mm_A h0) s.heap H1 locs1 → W p l e R s m args below meth c H1 locs1 (cells + mc) (slots + ms) Q (F0 m (pc + 3) ls ((v.map (mm_up b h0)).toList ++ rest))) : W p l e R s m args below meth c H locs cells slots Q (F0 m pc ls st0) := by
  intro T hT X
  obtain ⟨v', st₀, t, T', L, h0', X', hL, e1, e2, ⟨⟨hv, hb⟩, hz, hk⟩, st⟩ := hr T hT X
  cases hv
  rw [h0'] at hz hk
  obtain ⟨t2, a1, b1⟩ := kk T'.heap (locs ++ L) (by rw [e1]; exact hb) ⟨Nat.le_trans hS.1 (by rw [e1]; exact hz), fun q h1 h2 => by rw [e1, hk q (Nat.lt_of_lt_of_le h1 hS.1) h2]; exact hS.2.1 q h1 h2, fun q hq => by
      rcases List.mem_append.mp hq with h | h
      · exact hS.2.2 q h
      · exact hL q h⟩ T' rfl X'
  exact ⟨t2, st t2 a1, b1⟩
theorem mm_ret {cells slots len : Nat} {i : Instr} {v : Option Value} (C : mm_Cx D dA b h0 S p s m args meth c mi) (hd : decode (mm_by mi) pc = .ok (i, len)) (hln : mm_ln i len = true) (hrv : mm_rv i (mm_rt mi) st = some v) (hW : mm_Wd D dA b h0 M H) (hS : va_S (mm_A h0) s.heap H locs) : W p l e R s m args below meth c H locs cells slots (MQ below (mm_Qc D dA b h0 v M) args s cells slots (mm_A h0)) (F0 m pc ls (st.map (mm_up b h0))) := by
  obtain ⟨hx, hb, hml, hrt, hlk, hown, hts, hnx, hK, hini, hX, hbl, hh0⟩ := C
  unfold mm_rv at hrv
  split at hrv
  · next x e1 =>
    cases hrv
    have hn := eq_of_beq (show (len == 1) = true from hln)
    subst hn
    exact W.iret (hlocks := hlk) hx hb (hrt.trans e1) (fun t ht hw => ⟨⟨rfl, by rw [ht]; exact hW⟩, hS.F ht⟩) hS.2.2 hd
  · next x e1 =>
    split at hrv
    · next hx01 =>
      cases hrv
      have hn := eq_of_beq (show (len == 1) = true from hln)
      subst hn
      exact W.zret (hlocks := hlk) hx hb (hrt.trans e1) (by rcases hx01 with rfl | rfl <;> rfl) (fun t ht hw => ⟨⟨rfl, by rw [ht]; exact hW⟩, hS.F ht⟩) hS.2.2 hd
    · cases hrv
  · next e1 =>
    cases hrv
    have hn := eq_of_beq (show (len == 1) = true from hln)
    subst hn
    exact W.vret (hlocks := hlk) hx hb (hrt.trans e1) (fun t ht hw => ⟨⟨rfl, by rw [ht]; exact hW⟩, hS.F ht⟩) hS.2.2 hd
  · next cn a e1 =>
    cases hrv
    have hn := eq_of_beq (show (len == 1) = true from hln)
    subst hn
    exact W.aret (hlocks := hlk) (v := .ref (mm_ad b h0 a)) hx hb (hrt.trans e1) (Or.inl ⟨_, rfl⟩) (Or.inr ⟨_, rfl⟩) (fun t ht hw => ⟨⟨rfl, by rw [ht]; exact hW⟩, hS.F ht⟩) hS.2.2 hd
  · cases hrv
theorem mm_jt_ok {o k t q : Nat} (h : mm_l2 mm_jT o k = some (t, q)) : (t = 0 → (.methodLink (mm_cn o) k Lib.Math.max.name : Cond) ∈ mm_tb) ∧ (t = 1 → (.methodLink (mm_cn o) k Lib.Math.min.name : Cond) ∈ mm_tb) ∧ (t = 2 → (.methodLink (mm_cn o) k Lib.Math.abs.name : Cond) ∈ mm_tb) := by
  have h1 := List.all_eq_true.mp mm_jok_all _ (mm_l2_mem h)
  refine ⟨fun e => ?_, fun e => ?_, fun e => ?_⟩
  · subst e
    exact mm_at_mem h1 rfl
  · subst e
    exact mm_at_mem h1 rfl
  · subst e
    exact mm_at_mem h1 rfl
theorem mm_sumup (r : List Value) : ((r.map (mm_up b h0)).map fun v => v.category).sum = (r.map fun v => v.category).sum := by
  rw [List.map_map]
  congr 1
  apply List.map_congr_left
  intro v _
  exact mm_up_cat b h0 v
/-- a call that the kit knows -/
theorem mm_nat {d len : Nat} {i : Instr} {r : List Value} (C : mm_Cx D dA b h0 S p s m args meth c mi) (hW : mm_Wd D dA b h0 M H) (hS : va_S (mm_A h0) s.heap H locs) (hl : mm_lh b h0 ls L) (hL : L.length = mm_mx mi) (hRc : M.2.1 ≤ R.cells + n0) (hRs : M.2.2 ≤ R.slots + u0) (hRf : d ≤ R.frames) (hRl : 60 * d ≤ R.locals) (hd : decode (mm_by mi) pc = .ok (i, len)) (hln : mm_ln i len = true) (hoi : mm_oi (mm_ow mi) d i st = some r)
    (go : W p l e R s m args below meth c H locs (M.2.1 - n0) (M.2.2 - u0) Q (F0 m (pc + 3) ls (r.map (mm_up b h0)))) : W p l e R s m args below meth c H locs (M.2.1 - n0) (M.2.2 - u0) Q (F0 m pc ls (st.map (mm_up b h0))) := by
  obtain ⟨hx, hb, hml, hrt, hlk, hown, hts, hnx, hK, hini, hX, hbl, hh0⟩ := C
  have hsz : ls.size = c.maxLocals := by rw [hml, ← hL]; exact hl.1
  unfold mm_oi at hoi
  split at hoi
  · next k a r' =>
    split at hoi
    · next hc =>
      cases hoi
      obtain ⟨h1, h2, h3⟩ := hc
      have hn := eq_of_beq (show (len == 3) = true from hln)
      subst hn
      obtain ⟨q, hq⟩ := Option.isSome_iff_exists.mp h1
      have hlink : (.methodLink (mm_cn (mm_ow mi)) k Lib.objectInit : Cond) ∈ mm_tb := mm_at_mem (List.all_eq_true.mp mm_ook_all _ (mm_l2_mem hq)) rfl
      refine W.objInit (a := mm_ad b h0 a) (rest := r.map (mm_up b h0)) hx hb hown (hts _ hlink) (hts _ mm_oi1) (hts _ mm_oi2) rfl hsz rfl hd (by omega) ?_ go
      have h4 := lv_room (m := m) (pc := pc) (ls := ls) (rest := (Value.ref a :: r).map (mm_up b h0)) (st := r.map (mm_up b h0)) (by rw [mm_sumup]; exact h3)
      omega
    · cases hoi
  · next k y r' =>
    split at hoi
    · next hc =>
      obtain ⟨h2, h3⟩ := hc
      have hn := eq_of_beq (show (len == 3) = true from hln)
      subst hn
      split at hoi
      · next q x r2 hq =>
        cases hoi
        have h4 : ((r2.map (mm_up b h0)).map fun v => v.category).sum + 13 ≤ R.locals := by
          rw [mm_sumup]
          have : (Value.int x).category = 1 := rfl
          simp only [List.map_cons, List.sum_cons] at h3
          omega
        exact va_mmax (rest := r2.map (mm_up b h0)) hx hb hsz.symm hown (hts _ ((mm_jt_ok hq).1 rfl)) (hts _ mm_js0) (hts _ mm_ji) (hts _ mm_jc0) (by omega) h4 (by omega) (by omega) hd go
      · next q x r2 hq =>
        cases hoi
        have h4 : ((r2.map (mm_up b h0)).map fun v => v.category).sum + 13 ≤ R.locals := by
          rw [mm_sumup]
          simp only [List.map_cons, List.sum_cons] at h3
          omega
        exact va_mmin (rest := r2.map (mm_up b h0)) hx hb hsz.symm hown (hts _ ((mm_jt_ok hq).2.1 rfl)) (hts _ mm_js1) (hts _ mm_ji) (hts _ mm_jc1) (by omega) h4 (by omega) (by omega) hd go
      · next r2 _ _ q hq =>
        cases hoi
        have h4 : ((r2.map (mm_up b h0)).map fun v => v.category).sum + 13 ≤ R.locals := by
          rw [mm_sumup]
          omega
        exact va_mabs (rest := r2.map (mm_up b h0)) hx hb hsz.symm hown (hts _ ((mm_jt_ok hq).2.2 rfl)) (hts _ mm_js2) (hts _ mm_ji) (hts _ mm_jc2) (by omega) h4 (by omega) (by omega) hd go
      · cases hoi
    · cases hoi
  · cases hoi
/-- what the tables say of a call -/
theorem mm_mt_ok {o idx k kd ne q : Nat} (h : mm_l2 mm_mT o idx = some (k, kd, ne, q)) : ((ne = 0 → (.methodLink (mm_cn o) idx (mm_y k) : Cond) ∈ mm_tb) ∧ (ne ≠ 0 → (.methodLinkNest (mm_cn o) idx (mm_y k) "MaskDesk" : Cond) ∈ lw_tbl)) ∧ (1 ≤ k ∧ k < 205 ∧ mm_nn kd k ≤ mm_mx k ∧ plainName (mm_y k).cls = true) ∧ (kd = 1 → (.static (mm_y k) : Cond) ∈ mm_tb) ∧ (kd ≠ 1 → (.instanceMethod (mm_y k) : Cond) ∈ mm_tb) ∧ (kd = 0 → (.selects (mm_cn (mm_ow k)) (mm_y k) (mm_y k) : Cond) ∈ mm_tb ∧ mm_ow k < 13) ∧ (kd = 2 → (mm_y k).name = "<init>" ∧ mm_rt k = none) := by
  have h1 := List.all_eq_true.mp mm_mok_all _ (mm_l2_mem h)
  unfold mm_mok at h1
  rw [Bool.and_eq_true, Bool.and_eq_true] at h1
  obtain ⟨⟨h1, h2⟩, h3⟩ := h1
  refine ⟨⟨fun e => ?_, fun e => ?_⟩, of_decide_eq_true h2, fun e => ?_, fun e => ?_, fun e => ?_, fun e => ?_⟩
  · rw [if_pos e] at h1
    exact mm_at_mem h1 rfl
  · rw [if_neg e] at h1
    exact mm_at_in h1
  · rw [if_pos e] at h3
    exact mm_at_mem h3 rfl
  · rw [if_neg e, Bool.and_eq_true] at h3
    exact mm_at_mem h3.1 rfl
  · subst e
    rw [if_neg (by decide : ¬ (0 : Nat) = 1), if_pos rfl, Bool.and_eq_true, Bool.and_eq_true] at h3
    exact ⟨mm_at_mem h3.2.1 rfl, of_decide_eq_true h3.2.2⟩
  · subst e
    rw [if_neg (by decide : ¬ (2 : Nat) = 1), if_neg (by decide : ¬ (2 : Nat) = 0), Bool.and_eq_true] at h3
    exact (of_decide_eq_true h3.2).2
theorem mm_kt_ok {k : Nat} (h : k < 205) : (.initialized (mm_cn (mm_ow k)) : Cond) ∈ mm_tb ∧ (mm_y k).cls = mm_cn (mm_ow k) ∧ (mm_y k).cls ≠ "java/lang/invoke/MethodHandle" ∧ (mm_y k).cls ≠ "java/lang/invoke/VarHandle" ∧ (parseMethodDescriptor (mm_y k).desc).map (fun d => d.parameters.length) = some (mm_np k) ∧ mm_mx k ≤ 30 ∧ (mm_in k = true → (mm_y k).name = "<init>") := by
  have h1 := List.all_eq_true.mp mm_kok_all k (List.mem_range.mpr h)
  unfold mm_kok at h1
  rw [Bool.and_eq_true] at h1
  exact ⟨mm_at_mem h1.1 rfl, of_decide_eq_true h1.2⟩
/-- a call by the callee's contract -/
theorem mm_call {d k len : Nat} {i : Instr} {as r : List Value} {v : Option Value} {M1 : mm_M} (C : mm_Cx D dA b h0 S p s m args meth c mi) (hW : mm_Wd D dA b h0 M H) (hS : va_S (mm_A h0) s.heap H locs) (hl : mm_lh b h0 ls L) (hL : L.length = mm_mx mi) (hn0 : n0 ≤ M.2.1) (hu0 : u0 ≤ M.2.2) (hm1 : M.2.1 ≤ M1.2.1) (hm2 : M.2.2 ≤ M1.2.2) (hRc : M1.2.1 ≤ R.cells + n0) (hRs : M1.2.2 ≤ R.slots + u0) (hRf : d + 1 ≤ R.frames) (hRl : 60 * (d + 1) ≤ R.locals) (hd : decode (mm_by mi) pc = .ok (i, len)) (hln : mm_ln i len = true) (hcl : mm_cl (mm_ow mi) i st M = some (k, as, r))
    (hmet : (1 ≤ k ∧ k < 205) → plainName (mm_y k).cls = true → (∀ v ∈ as, v.category = 1) → as.length ≤ mm_mx k → Met l (mm_y k) (Cond.code (mm_y k) (mm_by k) (mm_mx k) (mm_rt k) :: mm_tb) { frames := d, cells := M1.2.1 - M.2.1, slots := M1.2.2 - M.2.2, locals := 60 * d } (mm_Pc D dA b h0 S as M) (mm_Qc D dA b h0 v M1) (M1.2.1 - M.2.1) (M1.2.2 - M.2.2) (mm_A h0))
    (go : ∀ (H1 : Heap) (locs1 : List Loc), mm_Wd D dA b h0 M1 H1 → va_S (mm_A h0) s.heap H1 locs1 → W p l e R s m args below meth c H1 locs1 (M1.2.1 - n0) (M1.2.2 - u0) Q (F0 m (pc + 3) ls ((v.toList ++ r).map (mm_up b h0)))) : W p l e R s m args below meth c H locs (M.2.1 - n0) (M.2.2 - u0) Q (F0 m pc ls (st.map (mm_up b h0))) := by
  obtain ⟨hx, hb, hml, hrt, hlk, hown, hts, hnx, hK, hini, hX, hbl, hh0⟩ := C
  obtain ⟨kind, idx, hck, hi⟩ : ∃ kind idx, mm_ck (mm_ow mi) kind idx st M = some (k, as, r) ∧ ((kind = 0 ∧ i = .invokevirtual idx) ∨ (kind = 1 ∧ i = .invokestatic idx) ∨ (kind = 2 ∧ i = .invokespecial idx)) := by
    unfold mm_cl at hcl
    split at hcl
    · exact ⟨_, _, hcl, Or.inl ⟨rfl, rfl⟩⟩
    · exact ⟨_, _, hcl, Or.inr (Or.inl ⟨rfl, rfl⟩)⟩
    · exact ⟨_, _, hcl, Or.inr (Or.inr ⟨rfl, rfl⟩)⟩
    · cases hcl
  have hlen3 : len = 3 := by
    rcases hi with ⟨-, rfl⟩ | ⟨-, rfl⟩ | ⟨-, rfl⟩ <;> exact eq_of_beq (show (len == 3) = true from hln)
  subst hlen3
  unfold mm_ck at hck
  split at hck
  · next k' kd ne q hq =>
    split at hck
    · next hc =>
      obtain ⟨⟨hkd, hnn⟩, hsum, hcat, hrc⟩ := hc
      subst hkd
      obtain ⟨hlinks, ⟨k1, k2, k3, k4⟩, hst1, hin1, hse1, hsp1⟩ := mm_mt_ok hq
      have hkk : k' = k := by cases hck; rfl
      subst hkk
      have has : as = (st.take (mm_nn kd k')).reverse := by cases hck; rfl
      have hr' : r = st.drop (mm_nn kd k') := by cases hck; rfl
      have hstk : st = as.reverse ++ r := by rw [has, hr', List.reverse_reverse, List.take_append_drop]
      have haslen : as.length = mm_nn kd k' := by rw [has, List.length_reverse, List.length_take]; omega
      have hcat' : ∀ v ∈ as, v.category = 1 := by
        intro v hv
        rw [has] at hv
        exact eq_of_beq (List.all_eq_true.mp hcat v (List.mem_reverse.mp hv))
      obtain ⟨t1, t2, t3, t4, t5, t6, t7⟩ := mm_kt_ok k2
      have hm := hmet ⟨k1, k2⟩ k4 hcat' (by rw [haslen]; exact k3)
      have hcode : (.code (mm_y k') (mm_by k') (mm_mx k') (mm_rt k') : Cond) ∈ mm_tb := cq_205 k' k2 k1
      have hgood : GoodIn mm_tb (Cond.code (mm_y k') (mm_by k') (mm_mx k') (mm_rt k') :: mm_tb) := fun w hw => (List.mem_cons.mp hw).elim (fun e => by rw [e]; exact mm_good _ hcode) (fun h => mm_good w h)
      have hroom : (({ frames := d, cells := M1.2.1 - M.2.1, slots := M1.2.2 - M.2.2, locals := 60 * d } : Room).frames + 1 ≤ R.frames ∧ 8 + (mm_mx k' + 11) + ({ frames := d, cells := M1.2.1 - M.2.1, slots := M1.2.2 - M.2.2, locals := 60 * d } : Room).locals ≤ R.locals) := ⟨hRf, by show 8 + (mm_mx k' + 11) + 60 * d ≤ R.locals; omega⟩
      have hf : M.2.1 - n0 + (M1.2.1 - M.2.1) ≤ R.cells ∧ M.2.2 - u0 + (M1.2.2 - M.2.2) ≤ R.slots := ⟨by omega, by omega⟩
      have hsz : ls.size = mm_mx mi := by rw [← hL]; exact hl.1
      have hrsum : ((r.map (mm_up b h0)).map fun v => v.category).sum ≤ 8 := by rw [mm_sumup, hr']; exact hsum
      have hPc : ∀ U : State, U.heap = H → s.WarmedH U.vm → mm_Pc D dA b h0 S as M (as.map (mm_up b h0)).toArray U := by
        intro U hU hWm
        refine ⟨rfl, by rw [hU]; exact hW, va_K.moved hWm.alike hK, mm_Nx_moved hWm hnx, ?_, by rw [hU]; exact Nat.le_trans hh0 hS.1⟩
        rw [hU]
        exact (hX.kept (H1 := H) (hS.2.1 b (Nat.lt_of_lt_of_le hbl hh0) (Nat.not_le.mpr hbl))).moved hWm.alike
      have go2 : ∀ (H1 : Heap) (locs1 : List Loc), mm_Wd D dA b h0 M1 H1 → va_S (mm_A h0) s.heap H1 locs1 → W p l e R s m args below meth c H1 locs1 (M.2.1 - n0 + (M1.2.1 - M.2.1)) (M.2.2 - u0 + (M1.2.2 - M.2.2)) Q (F0 m (pc + 3) ls ((v.map (mm_up b h0)).toList ++ r.map (mm_up b h0))) := by
        intro H1 locs1 hW1 hS1
        have g := go H1 locs1 hW1 hS1
        rw [show M.2.1 - n0 + (M1.2.1 - M.2.1) = M1.2.1 - n0 by omega, show M.2.2 - u0 + (M1.2.2 - M.2.2) = M1.2.2 - u0 by omega]
        rw [List.map_append] at g
        have e1 : (v.map (mm_up b h0)).toList = v.toList.map (mm_up b h0) := by cases v <;> rfl
        rw [e1]
        exact g
      rcases hi with ⟨rfl, rfl⟩ | ⟨rfl, rfl⟩ | ⟨rfl, rfl⟩
      · -- invokevirtual
        unfold mm_rc at hrc
        rw [if_neg (by decide : ¬ (0 : Nat) = 1), ← has] at hrc
        split at hrc
        · next a as' =>
          split at hrc
          · next ci fs hM =>
            have hci : ci = mm_ow k' := eq_of_beq (by simpa using hrc)
            subst hci
            obtain ⟨s1, s2⟩ := hse1 rfl
            obtain ⟨q0, ha, hlt, had, hws⟩ := mm_ws_at hW hM
            rw [mm_uE_o] at hws
            have hrecv := va_recv hK hW.2.2.2 (mm_cl_ok s2).1 hws
            rw [← had] at hrecv
            have hlen2 : (as'.map (mm_up b h0)).length = mm_np k' := by
              have h5 : (Value.ref a :: as').length = mm_np k' + 1 := haslen
              rw [List.length_map]
              simpa using h5
            have hstk2 : st.map (mm_up b h0) = (as'.map (mm_up b h0)).reverse ++ .ref (mm_ad b h0 a) :: r.map (mm_up b h0) := by
              rw [hstk]
              simp [mm_up]
            rw [hstk2]
            by_cases hne : ne = 0
            · refine mm_cont (va_runV (C := mm_cn (mm_ow k')) (b := mm_ad b h0 a) (As := as'.map (mm_up b h0)) (rest := r.map (mm_up b h0)) ⟨hx, hb, hml, hown, hts⟩ hm (cwV (mm_np k') hts (fun w hw => ?_) rfl rfl rfl ⟨t2, t3, t4, t5⟩ hroom) ⟨mm_Pc_blind, hrecv, hPc⟩ rfl hlen2 hsz rfl (lv_room hrsum) hd hf) hS go2
              unfold wsV at hw
              rcases List.mem_append.mp hw with hw | hw
              · simp only [List.mem_cons, List.not_mem_nil, or_false] at hw
                rcases hw with rfl | rfl | rfl | rfl
                · exact mm_good _ (hlinks.1 hne)
                · exact mm_good _ (hin1 (by decide))
                · exact mm_good _ s1
                · exact mm_good _ t1
              · exact hgood w hw
            · exact mm_cont (va_runVN (C := mm_cn (mm_ow k')) (b := mm_ad b h0 a) (As := as'.map (mm_up b h0)) (rest := r.map (mm_up b h0)) ⟨hx, hb, hml, hown, hts⟩ hm ⟨va_cnB (mm_np k') hts hgood rfl rfl rfl (hnx.1 _ _ _ _ (hlinks.2 hne)) (by rw [t2]; exact hts _ t1) ⟨t3, t4, t5⟩ hroom, hts _ (hin1 (by decide)), hts _ s1⟩ ⟨mm_Pc_blind, hrecv, hPc⟩ rfl hlen2 hsz rfl (lv_room hrsum) hd hf) hS go2
          · simp at hrc
        · cases hrc
      · -- invokestatic
        have hlen2 : (as.map (mm_up b h0)).length = mm_np k' := by
          rw [List.length_map, haslen]
          rfl
        have hstk2 : st.map (mm_up b h0) = (as.map (mm_up b h0)).reverse ++ r.map (mm_up b h0) := by
          rw [hstk]
          simp
        rw [hstk2]
        by_cases hne : ne = 0
        · refine mm_cont (va_runS (As := as.map (mm_up b h0)) (rest := r.map (mm_up b h0)) ⟨hx, hb, hml, hown, hts⟩ hm (va_cwS (mm_np k') hts (fun w hw => ?_) rfl rfl rfl ⟨t3, t4, t5⟩ hroom) ⟨mm_Pc_blind, hPc⟩ rfl hlen2 hsz rfl (lv_room hrsum) hd hf) hS go2
          unfold va_wsS at hw
          rcases List.mem_append.mp hw with hw | hw
          · simp only [List.mem_cons, List.not_mem_nil, or_false] at hw
            rcases hw with rfl | rfl | rfl
            · exact mm_good _ (hlinks.1 hne)
            · exact mm_good _ (hst1 rfl)
            · rw [t2]
              exact mm_good _ t1
          · exact hgood w hw
        · exact mm_cont (va_runSN (As := as.map (mm_up b h0)) (rest := r.map (mm_up b h0)) ⟨hx, hb, hml, hown, hts⟩ hm ⟨va_cnB (mm_np k') hts hgood rfl rfl rfl (hnx.1 _ _ _ _ (hlinks.2 hne)) (by rw [t2]; exact hts _ t1) ⟨t3, t4, t5⟩ hroom, hts _ (hst1 rfl), trivial⟩ ⟨mm_Pc_blind, hPc⟩ rfl hlen2 hsz rfl (lv_room hrsum) hd hf) hS go2
      · -- invokespecial
        unfold mm_rc at hrc
        rw [if_neg (by decide : ¬ (2 : Nat) = 1), ← has] at hrc
        obtain ⟨p1, p2⟩ := hsp1 rfl
        split at hrc
        · next a as' =>
          have hlen2 : (as'.map (mm_up b h0)).length = mm_np k' := by
            have h5 : (Value.ref a :: as').length = mm_np k' + 1 := haslen
            rw [List.length_map]
            simpa using h5
          have hstk2 : st.map (mm_up b h0) = (as'.map (mm_up b h0)).reverse ++ .ref (mm_ad b h0 a) :: r.map (mm_up b h0) := by
            rw [hstk]
            simp [mm_up]
          rw [hstk2]
          have hm' := hm
          rw [p2] at hm' hgood
          by_cases hne : ne = 0
          · exact mm_cont (va_runI (b := mm_ad b h0 a) (As := as'.map (mm_up b h0)) (rest := r.map (mm_up b h0)) ⟨hx, hb, hml, hown, hts⟩ hm' (cwI (mm_np k') hts hgood rfl rfl rfl (by rw [t2]; exact hts _ t1) (hts _ (hlinks.1 hne)) (hts _ (hin1 (by decide))) p1 ⟨t3, t4, t5⟩ hroom) ⟨mm_Pc_blind, hPc⟩ rfl hlen2 hsz rfl (lv_room hrsum) hd hf) hS go2
          · exact mm_cont (va_runIN (b := mm_ad b h0 a) (As := as'.map (mm_up b h0)) (rest := r.map (mm_up b h0)) ⟨hx, hb, hml, hown, hts⟩ hm' ⟨va_cnB (mm_np k') hts hgood rfl rfl rfl (hnx.1 _ _ _ _ (hlinks.2 hne)) (by rw [t2]; exact hts _ t1) ⟨t3, t4, t5⟩ hroom, p1, hts _ (hin1 (by decide))⟩ ⟨mm_Pc_blind, hPc⟩ rfl hlen2 hsz rfl (lv_room hrsum) hd hf) hS go2
        · cases hrc
    · cases hck
  · cases hck
end MMC
/-- what the run of n steps says -/
def mm_SimP (l : Launch) (D : va_G) (dA : Nat → ClassId) (b h0 : Nat) (S : mm_S) (n : Nat) : Prop :=
  ∀ (d mi pc : Nat) (L : mm_L) (st : List Value) (M : mm_M) (v : Option Value) (M' : mm_M), mm_ex S n d mi pc L st M = some (v, M') → ∀ (p : Program) (e : Env) (R : Room) (s : State) (m : MethodId) (args : Array Value) (below : List Frame) (meth : Method) (c : Code) (Q : State → Prop) (H : Heap) (locs : List Loc) (ls : Array Slot) (n0 u0 : Nat), mm_Cx D dA b h0 S p s m args meth c mi → mm_Wd D dA b h0 M H → va_S (mm_A h0) s.heap H locs → mm_lh b h0 ls L → L.length = mm_mx mi → s.heap.size + 1 = h0 + n0 → n0 ≤ M.2.1 → u0 ≤ M.2.2 → M'.2.1 ≤ R.cells + n0 → M'.2.2 ≤ R.slots + u0 → d ≤ R.frames → 60 * d ≤ R.locals →
    (∀ (pc' : Nat) (ls' : Array Slot) (st' : List Value) (i' : Instr) (len' : Nat) (H' : Heap) (locs' : List Loc), decode (mm_by mi) pc' = .ok (i', len') → mm_ln i' len' = true → mm_rv i' (mm_rt mi) st' = some v → mm_Wd D dA b h0 M' H' → va_S (mm_A h0) s.heap H' locs' → W p l e R s m args below meth c H' locs' (M'.2.1 - n0) (M'.2.2 - u0) Q (F0 m pc' ls' (st'.map (mm_up b h0)))) →
    W p l e R s m args below meth c H locs (M.2.1 - n0) (M.2.2 - u0) Q (F0 m pc ls (st.map (mm_up b h0)))
theorem mm_met {l : Launch} {D : va_G} {dA : Nat → ClassId} {b h0 : Nat} {S : mm_S} {n d k : Nat} {as : List Value} {M M1 : mm_M} {v : Option Value} (hbh : b < h0) (ih : mm_SimP l D dA b h0 S n) (hcall : mm_ex S n d k 0 (mm_en k as) [] M = some (v, M1)) (hk : 1 ≤ k ∧ k < 205) (hpl : plainName (mm_y k).cls = true) (hcat : ∀ v ∈ as, v.category = 1) (hlen : as.length ≤ mm_mx k) : Met l (mm_y k) (Cond.code (mm_y k) (mm_by k) (mm_mx k) (mm_rt k) :: mm_tb) { frames := d, cells := M1.2.1 - M.2.1, slots := M1.2.2 - M.2.2, locals := 60 * d } (mm_Pc D dA b h0 S as M) (mm_Qc D dA b h0 v M1) (M1.2.1 - M.2.1) (M1.2.2 - M.2.2) (mm_A h0) := by
  refine Met.ofW (cc := mm_by k) (maxL := mm_mx k) (ret := mm_rt k) hpl rfl ?_
  intro p e s m args below meth c s₁ B hml hv
  obtain ⟨rfl, hW, hK, hNx, hX, hh0⟩ := hv
  obtain ⟨t1, t2, t3, t4, t5, t6, t7⟩ := mm_kt_ok hk.2
  have hts := atoms_spec (ws := Cond.code (mm_y k) (mm_by k) (mm_mx k) (mm_rt k) :: mm_tb) B.pre
  have hown : s.vm.findClass (mm_y k).cls = some m.cls := findClass_of_methodNamed B.named
  have hmono := mm_mono S _ _ _ _ _ _ _ _ _ hcall
  have C : mm_Cx D dA b h0 S p s m (as.map (mm_up b h0)).toArray meth c k := ⟨B.exec, B.bytes, hml, B.returns, B.notSynchronized, by rw [← t2]; exact hown, fun w hw => hts w (List.mem_cons_of_mem _ hw), hNx, hK, fun hi => by rw [(name_of_methodNamed B.named B.method).1]; exact t7 hi, hX, hbh, hh0⟩
  rw [entry_eq m (as.map (mm_up b h0)) (fun v hv => by
    obtain ⟨u, hu, rfl⟩ := List.mem_map.mp hv
    rw [mm_up_cat]
    exact hcat u hu) (mm_mx k)]
  have hlenen : (mm_en k as).length = mm_mx k := by
    unfold mm_en
    simp
    omega
  have g := ih d k 0 (mm_en k as) [] M v M1 hcall p e { frames := d, cells := M1.2.1 - M.2.1, slots := M1.2.2 - M.2.2, locals := 60 * d } s m (as.map (mm_up b h0)).toArray below meth c (MQ below (mm_Qc D dA b h0 v M1) (as.map (mm_up b h0)).toArray s (M1.2.1 - M.2.1) (M1.2.2 - M.2.2) (mm_A h0)) s.heap [] _ M.2.1 M.2.2 C hW va_S.rf (mm_lh_entry hcat hlen) hlenen hW.1.2 (Nat.le_refl _) (Nat.le_refl _) (by show M1.2.1 ≤ M1.2.1 - M.2.1 + M.2.1; omega) (by show M1.2.2 ≤ M1.2.2 - M.2.2 + M.2.2; omega) (Nat.le_refl _) (Nat.le_refl _) (fun pc' ls' st' i' len' H' locs' hd hln hrv hW' hS' => mm_ret C hd hln hrv hW' hS')
  rw [Nat.sub_self, Nat.sub_self] at g
  exact g
theorem mm_sim (l : Launch) (D : va_G) (dA : Nat → ClassId) (b h0 : Nat) (S : mm_S) (hbh : b < h0) : ∀ n, mm_SimP l D dA b h0 S n := by
  intro n
  induction n with
  | zero => intro d mi pc L st M v M' h; cases h
  | succ n ih =>
    intro d mi pc L st M v M' h p e R s m args below meth c Q H locs ls n0 u0 C hW hS hl hL hs0 hn0 hu0 hRc hRs hRf hRl hend
    unfold mm_ex at h
    split at h
    · cases h
    · next i hi =>
      obtain ⟨len, hd, hln⟩ := mm_dec hi
      split at h
      · next k as r hcl =>
        split at h
        · cases h
        · next d' =>
          split at h
          · cases h
          · next v1 M1 hcall =>
            have m1 := mm_mono S _ _ _ _ _ _ _ _ _ hcall
            have m2 := mm_mono S _ _ _ _ _ _ _ _ _ h
            refine mm_call C hW hS hl hL hn0 hu0 m1.1 m1.2 (Nat.le_trans m2.1 hRc) (Nat.le_trans m2.2 hRs) hRf hRl hd hln hcl (fun a1 a2 a3 a4 => mm_met hbh ih hcall a1 a2 a3 a4) (fun H1 locs1 hW1 hS1 => ?_)
            exact ih _ _ _ _ _ _ _ _ h p e R s m args below meth c Q H1 locs1 ls n0 u0 C hW1 hS1 hl hL hs0 (Nat.le_trans hn0 m1.1) (Nat.le_trans hu0 m1.2) hRc hRs hRf hRl hend
      · split at h
        · next v1 hrv =>
          cases h
          exact hend pc ls st i len H locs hd hln hrv hW hS
        · split at h
          · next r hoi =>
            have m2 := mm_mono S _ _ _ _ _ _ _ _ _ h
            exact mm_nat C hW hS hl hL (Nat.le_trans m2.1 hRc) (Nat.le_trans m2.2 hRs) hRf hRl hd hln hoi (ih _ _ _ _ _ _ _ _ h p e R s m args below meth c Q H locs ls n0 u0 C hW hS hl hL hs0 hn0 hu0 hRc hRs hRf hRl hend)
          · split at h
            · cases h
            · next pc' L' st' M2 hst =>
              have m1 := mm_st_mono hst
              have m2 := mm_mono S _ _ _ _ _ _ _ _ _ h
              exact mm_step C hW hS hl hs0 hn0 hu0 (Nat.le_trans m2.1 hRc) (Nat.le_trans m2.2 hRs) hd hln hst (fun H1 locs1 ls1 hW1 hS1 hl1 => ih _ _ _ _ _ _ _ _ h p e R s m args below meth c Q H1 locs1 ls1 n0 u0 C hW1 hS1 hl1 (m1.2.2.trans hL) hs0 (Nat.le_trans hn0 m1.1) (Nat.le_trans hu0 m1.2.1) hRc hRs hRf hRl hend)
