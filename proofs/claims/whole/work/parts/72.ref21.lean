/-! ===== the reference's own calls, XX: split ===== -/
section P72a
variable {f : Nat → Int32}
def qst (Iv : Nat → Int32) (z : Nat) (q : QS) : QS := if bt (q.2.2.2 (z / 17)) (z % 17) = true then qfrom q (z % 17) (z / 17) (Iv (z / 17)) else q
def qfl (Iv : Nat → Int32) : Nat → Nat → QS → QS
  | 0, _, q => q
  | j + 1, z, q => qfl Iv j (z + 1) (qst Iv z q)
theorem qfl_add {Iv : Nat → Int32} : ∀ a b z q, qfl Iv (a + b) z q = qfl Iv b (z + a) (qfl Iv a z q) := by
  intro a
  induction a with
  | zero => intro b z q; rw [Nat.zero_add]; rfl
  | succ a ih =>
    intro b z q
    rw [show a + 1 + b = (a + b) + 1 by omega]
    show qfl Iv (a + b) (z + 1) (qst Iv z q) = qfl Iv b (z + (a + 1)) (qfl Iv a (z + 1) (qst Iv z q))
    rw [ih, show z + 1 + a = z + (a + 1) by omega]
theorem qfrom_o {q : QS} {x y : Nat} {inn : Int32} : (qfrom q x y inn).2.2.2 = q.2.2.2 := by
  unfold qfrom
  split <;> rfl
theorem qst_o {Iv : Nat → Int32} {z : Nat} {q : QS} : (qst Iv z q).2.2.2 = q.2.2.2 := by
  unfold qst
  split
  · exact qfrom_o
  · rfl
def OBC (f : Nat → Int32) (q : QS) : Prop := ∀ y x, y ≤ 16 → x ≤ 16 → bt (q.2.2.2 y) x = true → crn f x y = true
theorem OBC_cg {q q' : QS} (h : OBC f q) (e : q'.2.2.2 = q.2.2.2) : OBC f q' := fun y x hy hx w => h y x hy hx (by rw [← e]; exact w)
theorem qfl_o {Iv : Nat → Int32} : ∀ j z q, (qfl Iv j z q).2.2.2 = q.2.2.2 := by
  intro j
  induction j with
  | zero => intro z q; rfl
  | succ j ih => intro z q; show (qfl Iv j (z + 1) (qst Iv z q)).2.2.2 = _; rw [ih, qst_o]
theorem qfl_no {Iv : Nat → Int32} : ∀ j z q, OBC f q → z + j ≤ 289 → (∀ i, i < j → ¬ crn f ((z + i) % 17) ((z + i) / 17) = true) → qfl Iv j z q = q := by
  intro j
  induction j with
  | zero => intro z q _ _ _; rfl
  | succ j ih =>
    intro z q hO hz h
    have e : qst Iv z q = q := if_neg (fun w => h 0 (by omega) (hO (z / 17) (z % 17) (by omega) (by omega) w))
    show qfl Iv j (z + 1) (qst Iv z q) = q
    rw [e]
    exact ih (z + 1) q hO (by omega) (fun i hi => by have := h (i + 1) (by omega); rw [show z + (i + 1) = z + 1 + i by omega] at this; exact this)
theorem qfl_x {Iv : Nat → Int32} {y : Nat} : ∀ j x q, x + j ≤ 16 → qfl Iv j (17 * y + x) q = qcx (Iv y) y j x q := by
  intro j
  induction j with
  | zero => intro x q _; rfl
  | succ j ih =>
    intro x q h
    show qfl Iv j (17 * y + (x + 1)) (qst Iv (17 * y + x) q) = qcx (Iv y) y j (x + 1) _
    rw [ih (x + 1) _ (by omega)]
    unfold qst
    rw [show (17 * y + x) / 17 = y by omega, show (17 * y + x) % 17 = x by omega]
theorem qfl_all {Iv : Nat → Int32} {q : QS} (hO : OBC f q) : qfl Iv 289 0 q = qcy Iv 15 1 q := by
  have hrow : ∀ y q, OBC f q → 1 ≤ y → y < 16 → qfl Iv 17 (17 * y) q = qcx (Iv y) y 15 1 q := by
    intro y q hO h1 h2
    rw [show 17 = 1 + (15 + 1) by decide, qfl_add, qfl_add]
    rw [show (1 + (15 + 1)) * y = 17 * y by omega]
    rw [qfl_no (f := f) 1 (17 * y) q hO (by omega) (fun i hi w => by rw [crn_rim (Or.inl (by omega))] at w; exact absurd w (by decide))]
    rw [qfl_x 15 1 q (by omega)]
    refine qfl_no (f := f) 1 _ _ (OBC_cg hO (by rw [← qfl_x 15 1 q (by omega)]; exact qfl_o 15 _ q)) (by omega) (fun i hi w => ?_)
    rw [crn_rim (Or.inr (Or.inl (by omega)))] at w
    exact absurd w (by decide)
  have hrows : ∀ j y q, OBC f q → 1 ≤ y → y + j ≤ 16 → qfl Iv (17 * j) (17 * y) q = qcy Iv j y q := by
    intro j
    induction j with
    | zero => intro y q _ _ _; rfl
    | succ j ih =>
      intro y q hO h1 h2
      rw [show 17 * (j + 1) = 17 + 17 * j by omega, qfl_add, show 17 * y + 17 = 17 * (y + 1) by omega, ih (y + 1) _ (OBC_cg hO (qfl_o 17 _ q)) (by omega) (by omega), hrow y q hO h1 (by omega)]
      rfl
  rw [show 289 = 17 + (17 * 15 + 17) by decide, qfl_add, qfl_add, qfl_no (f := f) 17 0 q hO (by omega) (fun i hi w => by
    rw [crn_rim (Or.inr (Or.inr (Or.inl (by omega))))] at w
    exact absurd w (by decide)), show 0 + 17 = 17 * 1 by decide, hrows 15 1 q hO (by omega) (by omega)]
  refine qfl_no (f := f) 17 _ _ (OBC_cg hO (by rw [← hrows 15 1 q hO (by omega) (by omega)]; exact qfl_o _ _ q)) (by omega) (fun i hi w => ?_)
  rw [crn_rim (Or.inr (Or.inr (Or.inr (by omega))))] at w
  exact absurd w (by decide)
theorem qfl_sk {Iv : Nat → Int32} {q : QS} {z z' : Nat} (hO : OBC f q) (h1 : z ≤ z') (h2 : z' ≤ 289) (h : ∀ i, z ≤ i → i < z' → ¬ crn f (i % 17) (i / 17) = true) : qfl Iv (289 - z) z q = qfl Iv (289 - z') z' q := by
  rw [show 289 - z = (z' - z) + (289 - z') by omega, qfl_add, qfl_no (f := f) (z' - z) z q hO (by omega) (fun i hi => h (z + i) (by omega) (by omega)), show z + (z' - z) = z' by omega]
theorem tcb_cg {ln st en ln' st' en' : Nat → Int32} {i j : Nat} (hi : ln i = ln' i ∧ st i = st' i ∧ en i = en' i) (hj : ln j = ln' j ∧ st j = st' j ∧ en j = en' j) : tcb ln st en i j = tcb ln' st' en' i j := by
  unfold tcb
  rw [hi.1, hi.2.1, hi.2.2, hj.1, hj.2.1, hj.2.2]
end P72a
theorem qcs_sub {lv : Nat} {ch : Int32} {A B C : Nat → Nat} {n : Nat} {f : Nat → Int32} (hD : ∀ i, i < n → CD f (decide (i < lv)) (A i) (B i) (C i)) : ∀ k i (q : QS), i + k = n → ∀ y x, x ≤ 16 → bt ((qcs lv ch A B C k i q).2.2.2 y) x = true → bt (q.2.2.2 y) x = true := by
  intro k
  induction k with
  | zero => intro i q _ y x _ h; exact h
  | succ k ih =>
    intro i q hi y x hx h
    have h1 := ih (i + 1) _ (by omega) y x hx h
    by_cases hb' : bt ch i = true
    · rw [if_pos hb'] at h1
      have hd := hD i (by omega)
      have hd2 := hd.2.1
      by_cases hlv : i < lv
      · rw [decide_eq_true hlv] at h1
        have h1 : oB (qch q true (A i) (B i) (C i)) y x = true := h1
        rw [oB_L (by omega) (by omega) (by omega), Bool.and_eq_true] at h1
        exact h1.1
      · rw [decide_eq_false hlv] at h1
        have h1 : oB (qch q false (A i) (B i) (C i)) y x = true := h1
        rw [oB_U (by omega) (by omega) (by omega), Bool.and_eq_true] at h1
        exact h1.1
    · rw [if_neg hb'] at h1
      exact h1
section P72
variable {S : mm_S} {d : Nat} {M : mm_M} {A : AS} {I : Nat → Int32} {sh : Nat → Nat → Int32} {o : OS} {l : LYS} {pi fa tp : IS}
set_option maxRecDepth 8000 in
theorem m188_N {s : Int32} (hV : VS sh o l pi fa tp) (h : MRl A I sh o l pi fa tp) (hN : ¬ shp s ∨ SPN (sh (sn s))) : mm_R S (d + 5) 188 0 (mm_en 188 [.ref 73, .int s]) [] (mdm M A I) (fun v M' => FM (mdm M A I) M' ∧ v = some (.int (-1000)) ∧ MI M' sh o l pi fa tp) := by
  show mm_R S (d + 5) 188 0 [some (.ref 73), some (.int s), none] [] (mdm M A I) _
  obtain ⟨r1, r2, r3, r4, r5, r6, r7, r8⟩ := id h
  refine R_iload_n (q := 1) rfl rfl rfl ?_
  refine R_calls1 (q := 4) rfl rfl rfl rfl (Nat.le_of_ble_eq_true rfl) rfl ?_
  refine R_mono (m148) (fun v1 M1 hr1 => ?_)
  obtain ⟨rfl, hm1⟩ := hr1
  rw [hm1]
  dsimp only [Option.toList, List.cons_append, List.nil_append]
  refine R_if_ne (q := 7) (t := 11) rfl rfl rfl (fun h4 => ?_) (fun h4 => ?_)
  · have hP : shp s := of_decide_eq_true (zb_ne0.mp h4)
    obtain ⟨k, hk, rfl⟩ := i_ix (a := s) 6 (by decide) hP.1 hP.2
    have hS : SPN (sh k) := by
      rcases hN with z | z
      · exact absurd hP z
      · rw [show sn (nI k) = k from cl_nI (by omega)] at z; exact z
    obtain ⟨co, ln, st, en0, s1, s2, w1, w2⟩ := hS
    have hFN := FND_r (hV.1 k hk) w1
    refine R_aload_n (q := 12) rfl rfl rfl ?_
    refine R_iload_n (q := 13) rfl rfl rfl ?_
    refine R_callv1 (q := 16) rfl rfl rfl rfl md_73 (Nat.le_of_ble_eq_true rfl) rfl ?_
    refine R_mono (m175 (u := (0, ln, st, en0)) rfl r1 hk) (fun v13 M13 hr13 => ?_)
    obtain ⟨rfl, X, Y, F, T, B, en, nC, c1, c2, hm13, hE, hc1, hKR, ⟨hc12, hc272⟩, hCV1, hCV2⟩ := hr13
    rw [hm13]
    dsimp only [Option.toList, List.cons_append, List.nil_append]
    refine R_aload_n (q := 17) rfl rfl rfl ?_
    refine R_getf (q := 20) rfl rfl rfl md_73 rfl ?_
    rw [upd_e]
    refine R_bipush (q := 22) (v := nI 14) rfl rfl (by decide) ?_
    refine R_icmp_le (q := 25) (t := 29) rfl rfl rfl (fun h22 => absurd (by rw [i_le, i_n _ (by omega), ik_14] at h22; have := hKR.1; rw [← hFN.1, ← hFN.2] at this; omega) (by decide : ¬ False)) (fun h22 => ?_)
    refine R_sipush (q := 28) (v := (-1000)) rfl rfl (by decide) ?_
    refine R_ireturn rfl rfl ?_
    exact ⟨FM_md, rfl, MI_md ⟨r1, r2, r3, r4, r5, r6, r7, r8⟩⟩
  · refine R_sipush (q := 10) (v := (-1000)) rfl rfl (by decide) ?_
    refine R_ireturn rfl rfl ?_
    exact ⟨FM_md, rfl, MI_md h⟩
set_option maxRecDepth 8000 in
theorem m188_Y {s : Int32} {X : IS} (hV : VS sh o l pi fa tp) (h : MRl A I sh o l pi fa tp) (hP : shp s) (hX : SPL (sh (sn s)) pi.2 X) : mm_R S (d + 5) 188 0 (mm_en 188 [.ref 73, .int s]) [] (mdm M A I) (fun v M' => FM (mdm M A I) M' ∧ v = some (.int (nI X.1)) ∧ MI M' sh o l X fa tp ∧ PV X) := by
  show mm_R S (d + 5) 188 0 [some (.ref 73), some (.int s), none] [] (mdm M A I) _
  obtain ⟨r1, r2, r3, r4, r5, r6, r7, r8⟩ := id h
  obtain ⟨k, hk, rfl⟩ := i_ix (a := s) 6 (by decide) hP.1 hP.2
  rw [show sn (nI k) = k from cl_nI (by omega)] at hX
  obtain ⟨co, ln, st, en0, s1, s2, to, ps, q9, u, w1, w2, w3, rfl⟩ := hX
  have hf : ∀ y, y < 16 → hb (sh k y) := hV.1 k hk
  have hFN := FND_r hf w1
  have hok := FND_ok w1
  obtain ⟨Iv, hIv⟩ : ∃ Iv : Nat → Int32, Iv = (fun y => rm (sh k) y &&& rowv (sh k) (nI y)) := ⟨_, rfl⟩
  have hIb : ∀ y t, 1 ≤ y → y ≤ 15 → t < 16 → bt (Iv y) t = innr (sh k) true y t := fun y t h1 h2 h3 => by rw [hIv]; exact inL_bt hf (by omega)
  obtain ⟨ch, hch⟩ : ∃ c, c = (chall (cht s1 s2 to) s2.1 s1.1 ps).2.2.1 := ⟨_, rfl⟩
  obtain ⟨q0, hq0⟩ : ∃ q0 : QS, q0 = (ifl (fun _ => nI 0) q9.1 17, ifl (fun _ => nI 0) q9.2.1 17, ifl (fun _ => nI 0) q9.2.2.1 17, ifl (ifl (cornv (sh k)) co 17) q9.2.2.2 17) := ⟨_, rfl⟩
  obtain ⟨qc, hqc⟩ : ∃ qc, qc = qcs s1.1 ch (oX s2.2.1) (oX s2.2.2.1) (oX s2.2.2.2) s2.1 0 q0 := ⟨_, rfl⟩
  obtain ⟨Q, hQ⟩ : ∃ Q, Q = qcy Iv 15 1 qc := ⟨_, rfl⟩
  have hSPQ : SPQ (sh k) co s1 s2 to ps q9 = Q := by rw [hQ, hqc, hq0, hch, hIv]; rfl
  rw [hSPQ]
  have h0b : ∀ y x, y ≤ 16 → x ≤ 16 → (hB q0 y x = false ∧ vB q0 y x = false ∧ pB q0 y x = false) ∧ oB q0 y x = crn (sh k) x y := by
    intro y x hy hx
    rw [hq0]
    refine ⟨⟨?_, ?_, ?_⟩, ?_⟩
    · show bt (ifl (fun _ => nI 0) q9.1 17 y) x = false; rw [ifl_lt (by omega)]; exact b_0 x
    · show bt (ifl (fun _ => nI 0) q9.2.1 17 y) x = false; rw [ifl_lt (by omega)]; exact b_0 x
    · show bt (ifl (fun _ => nI 0) q9.2.2.1 17 y) x = false; rw [ifl_lt (by omega)]; exact b_0 x
    · show bt (ifl (ifl (cornv (sh k)) co 17) q9.2.2.2 17 y) x = _; rw [ifl_lt (by omega), ifl_lt (by omega)]; exact cornv_bt hf hx hy
  refine R_iload_n (q := 1) rfl rfl rfl ?_
  refine R_calls1 (q := 4) rfl rfl rfl rfl (Nat.le_of_ble_eq_true rfl) rfl ?_
  refine R_mono (m148) (fun v1 M1 hr1 => ?_)
  obtain ⟨rfl, hm1⟩ := hr1
  rw [hm1]
  dsimp only [Option.toList, List.cons_append, List.nil_append]
  refine R_if_ne (q := 7) (t := 11) rfl rfl rfl (fun h4 => ?_) (fun h4 => absurd (by rw [zb_t (D := inferInstance) hP] at h4; exact absurd h4 (by decide)) (by decide : ¬ False))
  refine R_aload_n (q := 12) rfl rfl rfl ?_
  refine R_iload_n (q := 13) rfl rfl rfl ?_
  refine R_callv1 (q := 16) rfl rfl rfl rfl md_73 (Nat.le_of_ble_eq_true rfl) rfl ?_
  refine R_mono (m175 (u := (0, ln, st, en0)) rfl r1 hk) (fun v13 M13 hr13 => ?_)
  obtain ⟨rfl, X, Y, F, T, B, en, nC, c1, c2, hm13, hE, hc1, hKR, ⟨hc12, hc272⟩, hCV1, hCV2⟩ := hr13
  rw [hm13]
  dsimp only [Option.toList, List.cons_append, List.nil_append]
  have hc2 : c2 = s2.1 := by rw [hFN.2, hFN.1]; exact hKR.1.symm
  have hc1' : c1 = s1.1 := by rw [hFN.1]; exact hc1
  rw [← hFN.1, ← hFN.2] at hKR
  rw [← hc1', ← hc2] at hqc
  rw [← hc2] at w2
  have hdat : ∀ i, i < c2 → (F i = nI (oX s2.2.2.1 i) ∧ T i = nI (oX s2.2.2.2 i) ∧ B i = nI (oX s2.2.1 i)) ∧ CD (sh k) (decide (i < c1)) (oX s2.2.1 i) (oX s2.2.2.1 i) (oX s2.2.2.2 i) := by
    intro i hi
    have hkr := hKR.2 i hi (by omega)
    have hcv : ∃ z, z < 289 ∧ rcP (sh k) (decide (i < c1)) z ∧ F i = nI (z % 17) ∧ T i = nI (REk (sh k) (decide (i < c1)) z) ∧ B i = nI (z / 17) := by
      by_cases hlv : i < c1
      · rw [decide_eq_true hlv]; exact hCV1 i hlv
      · rw [decide_eq_false hlv]; exact hCV2 i (by omega) hi
    obtain ⟨z, z1, z2, z3, z4, z5⟩ := hcv
    have hcd := rcP_CD z1 z2
    have o1 : oX s2.2.2.1 i = z % 17 := by show (s2.2.2.1 i).toNatClampNeg = _; rw [hkr.2.1, z3, cl_nI (by omega)]
    have o2 : oX s2.2.2.2 i = REk (sh k) (decide (i < c1)) z := by show (s2.2.2.2 i).toNatClampNeg = _; rw [hkr.2.2, z4, cl_nI (by have := hcd.2.1.2.1; omega)]
    have o3 : oX s2.2.1 i = z / 17 := by show (s2.2.1 i).toNatClampNeg = _; rw [hkr.1, z5, cl_nI (by omega)]
    rw [o1, o2, o3]
    exact ⟨⟨z3, z4, z5⟩, hcd⟩
  have hD : ∀ i, i < c2 → ((upa (upa (upa (upa (upa A 96 X) 97 Y) 98 F) 99 T) 100 B) 98 i = nI (oX s2.2.2.1 i) ∧ (upa (upa (upa (upa (upa A 96 X) 97 Y) 98 F) 99 T) 100 B) 99 i = nI (oX s2.2.2.2 i) ∧ (upa (upa (upa (upa (upa A 96 X) 97 Y) 98 F) 99 T) 100 B) 100 i = nI (oX s2.2.1 i)) ∧ (oX s2.2.2.1 i < oX s2.2.2.2 i ∧ oX s2.2.2.2 i ≤ 16 ∧ oX s2.2.1 i ≤ 16) := fun i hi => ⟨(hdat i hi).1, (hdat i hi).2.2.1⟩
  have hto : ∀ a b, a < c2 → b < 32 → (bt (cht s1 s2 to a) b = true ↔ (a < c1 ∧ c1 ≤ b ∧ b < c2 ∧ tcb s2.2.1 s2.2.2.1 s2.2.2.2 a b = true) ∨ (b < c1 ∧ c1 ≤ a ∧ tcb s2.2.1 s2.2.2.1 s2.2.2.2 b a = true)) := by
    intro a b ha hb0
    unfold cht
    rw [← hc1', ← hc2]
    exact ti_bt w2 hc12 ha hb0
  have hADJ : ADJ (cht s1 s2 to) c2 c1 := by
    refine ⟨fun a b ha hb0 z => ?_, fun a b ha hb0 z => ?_⟩
    · rcases (hto a b ha (by omega)).mp z with v | v
      · exact Or.inl ⟨v.1, v.2.1⟩
      · exact Or.inr ⟨v.1, v.2.1⟩
    · refine (hto b a hb0 (by omega)).mpr ?_
      rcases (hto a b ha (by omega)).mp z with v | v
      · exact Or.inr ⟨v.1, v.2.1, v.2.2.2⟩
      · exact Or.inl ⟨v.1, v.2.1, ha, v.2.2⟩
  have hLX : LXM (cht s1 s2 to) c2 c1 (bt ch) := by
    rw [hch, ← hc1', ← hc2]
    exact chall_L hADJ w2 hc12
  have hto2 : ∀ i j, i < c1 → c1 ≤ j → j < c2 → (bt (cht s1 s2 to i) j = true ↔ tcb B F T i j = true) := by
    intro i j i1 j1 j2
    rw [hto i j (by omega) (by omega)]
    have hkr : ∀ i, i < c2 → s2.2.1 i = B i ∧ s2.2.2.1 i = F i ∧ s2.2.2.2 i = T i := fun i hi => hKR.2 i hi (by omega)
    rw [tcb_cg (hkr i (by omega)) (hkr j j2)]
    exact ⟨fun z => by rcases z with z | z; exact z.2.2.2; omega, fun z => Or.inl ⟨i1, j1, j2, z⟩⟩
  refine R_aload_n (q := 17) rfl rfl rfl ?_
  refine R_getf (q := 20) rfl rfl rfl md_73 rfl ?_
  rw [upd_e]
  refine R_bipush (q := 22) (v := nI 14) rfl rfl (by decide) ?_
  refine R_icmp_le (q := 25) (t := 29) rfl rfl rfl (fun h22 => ?_) (fun h22 => absurd (nI_le (by omega) (by omega)) h22)
  refine R_aload_n (q := 30) rfl rfl rfl ?_
  refine R_aload_n (q := 31) rfl rfl rfl ?_
  refine R_callv0 (q := 34) rfl rfl rfl rfl md_73 (Nat.le_of_ble_eq_true rfl) rfl ?_
  refine R_mono (m181 (n := c2) (lv := c1) w2 hc12 rfl rfl) (fun v31 M31 hr31 => ?_)
  obtain ⟨b, m, rfl, hm31, hb2, hBS⟩ := hr31
  rw [hm31]
  dsimp only [Option.toList, List.cons_append, List.nil_append]
  have hchb : ∀ i, i < c2 → bt ch i = tks c2 b i := fun i hi => (choice hto2 hLX hBS i hi).symm
  refine R_callv1 (q := 37) rfl rfl rfl rfl md_73 (Nat.le_of_ble_eq_true rfl) rfl ?_
  refine R_mono (m185 (n := c2) (lv := c1) (Z := b) (f := sh k) (sB := oX s2.2.2.1) (tC := oX s2.2.2.2) (lA := oX s2.2.1) (ch := ch) (q0 := q0) w2 hc12 rfl rfl hD hchb (fun y x hy hx => ⟨(h0b y x hy hx).1, fun w => by rw [(h0b y x hy hx).2]; exact w⟩)) (fun v34 M34 hr34 => ?_)
  obtain ⟨rfl, EN, BL, LF, CT, hm34, hCT, hEO⟩ := hr34
  rw [hm34]
  dsimp only [Option.toList, List.cons_append, List.nil_append]
  rw [← hqc] at hCT hEO
  have hC0 : CUP (sh k) q0 := ⟨fun y x hy hx w => by rw [(h0b y x hy hx).1.1] at w; exact absurd w (by decide), fun y x hy hx w => by rw [(h0b y x (by omega) hx).1.2.1] at w; exact absurd w (by decide), fun x y hF w => by have := hF.1; rw [(h0b y x (by omega) (by omega)).1.2.2] at w; exact absurd w (by decide)⟩
  have hO0 : OCI (sh k) q0 := fun x y hx hy hc => Or.inl (by rw [(h0b y x hy hx).2]; exact hc)
  have hG := qcs_I (lv := c1) (ch := ch) (A := oX s2.2.1) (B := oX s2.2.2.1) (C := oX s2.2.2.2) (n := c2) (fun i hi => (hdat i hi).2) c2 0 q0 (by omega) hC0 hO0
  have hOBC0 := qcs_sub (lv := c1) (ch := ch) (A := oX s2.2.1) (B := oX s2.2.2.1) (C := oX s2.2.2.2) (n := c2) (fun i hi => (hdat i hi).2) c2 0 q0 (by omega)
  rw [← hqc] at hG hOBC0
  have hOBC : OBC (sh k) qc := fun y x hy hx w => by
    have := hOBC0 y x hx w
    have w2 : oB q0 y x = true := this
    rw [(h0b y x hy hx).2] at w2
    exact w2
  have hGy := qcy_I hIb 15 1 qc (by omega) (by omega) hG.1 (fun x y hx hy hc => by
    have h15 := crn_15 hc hx hy
    rcases hG.2 x y hx hy hc with w | w
    · exact Or.inr ⟨by omega, w⟩
    · exact Or.inl w) (fun y x hy hx w => hOBC y x hy hx w)
  have hLP : LPr (sh k) Q := by rw [hQ]; exact LP_of hGy.1 hGy.2
  have hQf : qfl Iv 289 0 qc = Q := by rw [hQ]; exact qfl_all hOBC
  have h123 : ∀ (BL CT : Nat → Int32), CTR BL LF CT (hB Q) (vB Q) (pB Q) → ∀ (j kk : Nat) (st : CLS) (MT PC : Nat → Int32), kk + j = 256 → MU (sh k) Q st.1 → bef st.1 kk → (∀ r cc, r < 16 → cc < 16 → bt (sh k r) cc = true → MT (16 * r + cc) = zb (!(bt (st.1 r) cc))) → IRF PC st.2 → PVK st.2 kk → (usl Q.1 Q.2.1 j kk st).2 = (clall Q.1 Q.2.1 (sh k) u pi.2).2 → mm_R S (d + 5) 188 123 [some (.ref 73), some (.int (nI k)), some (.int (nI kk))] [] (mdm M (upa (upa (upa (upa (upa (upa (upa (upa (upa (upa (upa A 96 X) 97 Y) 98 F) 99 T) 100 B) 104 EN) 101 BL) 102 LF) 103 CT) 106 MT) 107 PC) (upd (upd (upd (upd I 31 (nI nC)) 35 (nI c1)) 36 (nI c2)) 44 (nI st.2.1))) (fun v M' => FM (mdm M A I) M' ∧ v = some (.int (nI (clall Q.1 Q.2.1 (sh k) u pi.2).2.1)) ∧ MI M' sh o l (clall Q.1 Q.2.1 (sh k) u pi.2).2 fa tp ∧ PV (clall Q.1 Q.2.1 (sh k) u pi.2).2) := by
    intro BL CT hCT j
    induction j with
    | zero =>
      intro kk st MT PC hk6 hMU hbe hMT hIR hPV hX
      have hkk : kk = 256 := by omega
      subst hkk
      have hX : st.2 = (clall Q.1 Q.2.1 (sh k) u pi.2).2 := hX
      refine R_iload_n (q := 124) rfl rfl rfl ?_
      refine R_sipush (q := 127) (v := nI 256) rfl rfl (by decide) ?_
      refine R_icmp_ge (q := 130) (t := 173) rfl rfl rfl (fun h127 => ?_) (fun h127 => absurd (nI_le (by omega) (by omega)) h127)
      refine R_aload_n (q := 174) rfl rfl rfl ?_
      refine R_getf (q := 177) rfl rfl rfl md_73 rfl ?_
      rw [upd_e]
      refine R_ireturn rfl rfl ?_
      rw [hX] at hIR hPV
      refine ⟨FM_md, by rw [hX], MI_md ⟨r1, r2, r3, r4, ⟨by rw [← hX]; rfl, hIR⟩, r6, r7, r8⟩, PVK_PV hPV⟩
    | succ j ih =>
      intro kk st MT PC hk6 hMU hbe hMT hIR hPV hX
      have hkk : kk < 256 := by omega
      have ecl : upa (upa (upa (upa (upa (upa (upa (upa (upa (upa (upa A 96 X) 97 Y) 98 F) 99 T) 100 B) 104 EN) 101 BL) 102 LF) 103 CT) 106 MT) 107 PC 74 (256 * k + kk) = zb (bx (sh k) kk) := CR_k r1 hk hkk
      have hX : (usl Q.1 Q.2.1 j (kk + 1) (ust Q.1 Q.2.1 kk st)).2 = (clall Q.1 Q.2.1 (sh k) u pi.2).2 := hX
      have hno : bt (st.1 (kk / 16)) (kk % 16) = false → mm_R S (d + 5) 188 167 [some (.ref 73), some (.int (nI k)), some (.int (nI kk))] [] (mdm M (upa (upa (upa (upa (upa (upa (upa (upa (upa (upa (upa A 96 X) 97 Y) 98 F) 99 T) 100 B) 104 EN) 101 BL) 102 LF) 103 CT) 106 MT) 107 PC) (upd (upd (upd (upd I 31 (nI nC)) 35 (nI c1)) 36 (nI c2)) 44 (nI st.2.1))) (fun v M' => FM (mdm M A I) M' ∧ v = some (.int (nI (clall Q.1 Q.2.1 (sh k) u pi.2).2.1)) ∧ MI M' sh o l (clall Q.1 Q.2.1 (sh k) u pi.2).2 fa tp ∧ PV (clall Q.1 Q.2.1 (sh k) u pi.2).2) := by
        intro hU
        have hus : ust Q.1 Q.2.1 kk st = st := if_neg (by rw [hU]; decide)
        rw [hus] at hX
        refine R_iinc (q := 170) rfl rfl rfl (nI_i1 kk) rfl ?_
        dsimp only [List.set]
        refine R_goto (t := 123) rfl rfl ?_
        refine ih (kk + 1) st MT PC (by omega) hMU (fun y x hy hx hlt => ?_) hMT hIR ⟨⟨by have := hPV.1.1; omega, hPV.1.2⟩, fun i hi => ⟨(hPV.2.1 i hi).1, by have := (hPV.2.1 i hi).2; omega⟩, hPV.2.2⟩ hX
        by_cases hq : 16 * y + x = kk
        · rw [show y = kk / 16 by omega, show x = kk % 16 by omega]; exact hU
        · exact hbe y x hy hx (by omega)
      have hgo : ∀ (st' : CLS) (MT' PC' : Nat → Int32), st' = ust Q.1 Q.2.1 kk st → MU (sh k) Q st'.1 → bef st'.1 (kk + 1) → (∀ r cc, r < 16 → cc < 16 → bt (sh k r) cc = true → MT' (16 * r + cc) = zb (!(bt (st'.1 r) cc))) → IRF PC' st'.2 → PVK st'.2 (kk + 1) → mm_R S (d + 5) 188 167 [some (.ref 73), some (.int (nI k)), some (.int (nI kk))] [] (mdm M (upa (upa (upa (upa (upa (upa (upa (upa (upa (upa (upa A 96 X) 97 Y) 98 F) 99 T) 100 B) 104 EN) 101 BL) 102 LF) 103 CT) 106 MT') 107 PC') (upd (upd (upd (upd I 31 (nI nC)) 35 (nI c1)) 36 (nI c2)) 44 (nI st'.2.1))) (fun v M' => FM (mdm M A I) M' ∧ v = some (.int (nI (clall Q.1 Q.2.1 (sh k) u pi.2).2.1)) ∧ MI M' sh o l (clall Q.1 Q.2.1 (sh k) u pi.2).2 fa tp ∧ PV (clall Q.1 Q.2.1 (sh k) u pi.2).2) := by
        intro st' MT' PC' h1 h2 h3 h4 h5 h6
        rw [← h1] at hX
        refine R_iinc (q := 170) rfl rfl rfl (nI_i1 kk) rfl ?_
        dsimp only [List.set]
        refine R_goto (t := 123) rfl rfl ?_
        exact ih (kk + 1) st' MT' PC' (by omega) h2 h3 h4 h5 h6 hX
      refine R_iload_n (q := 124) rfl rfl rfl ?_
      refine R_sipush (q := 127) (v := nI 256) rfl rfl (by decide) ?_
      refine R_icmp_ge (q := 130) (t := 173) rfl rfl rfl (fun h127 => absurd h127 (nI_ge (by omega) (by omega))) (fun h127 => ?_)
      refine R_aload_n (q := 131) rfl rfl rfl ?_
      refine R_getf (q := 134) rfl rfl rfl md_73 rfl ?_
      refine R_sipush (q := 137) (v := nI 256) rfl rfl (by decide) ?_
      refine R_iload_n (q := 138) rfl rfl rfl ?_
      refine R_imul (q := 139) rfl rfl ?_
      rw [pk_mul]
      refine R_iload_n (q := 140) rfl rfl rfl ?_
      refine R_iadd (q := 141) rfl rfl ?_
      rw [nI_add]
      refine R_baload (q := 142) rfl rfl md_74 (by decide) (by first | assumption | exact in_nI (by omega) (by decide)) ?_
      rw [cl_nI (by omega)]
      rw [ecl]
      refine R_if_eq (q := 145) (t := 167) rfl rfl rfl (fun h142 => ?_) (fun h142 => ?_)
      · first
          | (have w := zb_eq0.mp h142
             refine hno (Bool.eq_false_iff.mpr (fun z => ?_))
             have w : bt (sh k (kk / 16)) (kk % 16) = false := w
             have := hMU.1 (kk / 16) (kk % 16) (by omega) (by omega) z
             rw [w] at this
             exact absurd this (by decide))
          | (have w := zb_ne0.mp h151
             refine hno ?_
             cases hq : bt (st.1 (kk / 16)) (kk % 16)
             · rfl
             · rw [hq] at w; exact absurd w (by decide))
          | (rw [← hcn]
             refine hgo _ MT' _ rfl ?_ ?_ (fun r cc hr hcc hfc => ?_) ?_ ?_
             · rw [hus]; exact hra2.1
             · rw [hus]; exact hra2.2
             · rw [hMT' r cc hr hcc, hus]
               show _ = zb (!(bt (clrem st.1 (kk % 16) (kk / 16) (W - kk % 16) (H - kk / 16) r) cc))
               by_cases hin : inR (kk % 16) (kk / 16) W H cc r
               · have e1 : bt (clrem st.1 (kk % 16) (kk / 16) (W - kk % 16) (H - kk / 16) r) cc = false := Bool.eq_false_iff.mpr (fun z => ((hcb r cc hr hcc).mp z).2 hin)
                 rw [e1]
                 exact if_pos hin
               · rw [show (if (kk % 16 ≤ cc ∧ cc < W) ∧ kk / 16 ≤ r ∧ r < H then nI 1 else MT (16 * r + cc)) = MT (16 * r + cc) from if_neg hin, hMT r cc hr hcc hfc]
                 congr 2
                 apply Bool.eq_iff_iff.mpr
                 rw [hcb r cc hr hcc]
                 exact ⟨fun z => ⟨z, hin⟩, And.left⟩
             · rw [hus]; exact hir
             · rw [hus]; exact hpv.1)
      · have hfb : bx (sh k) kk = true := zb_ne0.mp h142
        have hMk := hMT (kk / 16) (kk % 16) (by omega) (by omega) hfb
        rw [show 16 * (kk / 16) + kk % 16 = kk by omega] at hMk
        refine R_aload_n (q := 146) rfl rfl rfl ?_
        refine R_getf (q := 149) rfl rfl rfl md_73 rfl ?_
        refine R_iload_n (q := 150) rfl rfl rfl ?_
        refine R_baload (q := 151) rfl rfl md_106 (by decide) (by first | assumption | exact in_nI (by omega) (by decide)) ?_
        rw [cl_nI (by omega)]
        rw [upa_n (by decide), upa_e, hMk]
        refine R_if_ne (q := 154) (t := 167) rfl rfl rfl (fun h151 => ?_) (fun h151 => ?_)
        · first
            | (have w := zb_eq0.mp h142
               refine hno (Bool.eq_false_iff.mpr (fun z => ?_))
               have w : bt (sh k (kk / 16)) (kk % 16) = false := w
               have := hMU.1 (kk / 16) (kk % 16) (by omega) (by omega) z
               rw [w] at this
               exact absurd this (by decide))
            | (have w := zb_ne0.mp h151
               refine hno ?_
               cases hq : bt (st.1 (kk / 16)) (kk % 16)
               · rfl
               · rw [hq] at w; exact absurd w (by decide))
            | (rw [← hcn]
               refine hgo _ MT' _ rfl ?_ ?_ (fun r cc hr hcc hfc => ?_) ?_ ?_
               · rw [hus]; exact hra2.1
               · rw [hus]; exact hra2.2
               · rw [hMT' r cc hr hcc, hus]
                 show _ = zb (!(bt (clrem st.1 (kk % 16) (kk / 16) (W - kk % 16) (H - kk / 16) r) cc))
                 by_cases hin : inR (kk % 16) (kk / 16) W H cc r
                 · have e1 : bt (clrem st.1 (kk % 16) (kk / 16) (W - kk % 16) (H - kk / 16) r) cc = false := Bool.eq_false_iff.mpr (fun z => ((hcb r cc hr hcc).mp z).2 hin)
                   rw [e1]
                   exact if_pos hin
                 · rw [show (if (kk % 16 ≤ cc ∧ cc < W) ∧ kk / 16 ≤ r ∧ r < H then nI 1 else MT (16 * r + cc)) = MT (16 * r + cc) from if_neg hin, hMT r cc hr hcc hfc]
                   congr 2
                   apply Bool.eq_iff_iff.mpr
                   rw [hcb r cc hr hcc]
                   exact ⟨fun z => ⟨z, hin⟩, And.left⟩
               · rw [hus]; exact hir
               · rw [hus]; exact hpv.1)
        · have hUb : bt (st.1 (kk / 16)) (kk % 16) = true := by
            have z := zb_eq0.mp h151
            cases hq : bt (st.1 (kk / 16)) (kk % 16)
            · rw [hq] at z; exact absurd z (by decide)
            · rfl
          have hc256 : st.2.1 < 256 := by have := hPV.1.1; omega
          refine R_aload_n (q := 155) rfl rfl rfl ?_
          refine R_iload_n (q := 156) rfl rfl rfl ?_
          refine R_iload_n (q := 157) rfl rfl rfl ?_
          refine R_bipush (q := 159) (v := nI 16) rfl rfl (by decide) ?_
          refine R_irem (q := 160) rfl rfl (by decide) ?_
          rw [pk_rem (by omega) (by omega) (by omega)]
          refine R_iload_n (q := 161) rfl rfl rfl ?_
          refine R_bipush (q := 163) (v := nI 16) rfl rfl (by decide) ?_
          refine R_idiv (q := 164) rfl rfl (by decide) ?_
          rw [pk_div (by omega) (by omega) (by omega)]
          refine R_callv3 (q := 167) rfl rfl rfl rfl md_73 (Nat.le_of_ble_eq_true rfl) rfl ?_
          refine R_mono (m187 (q := Q) (s := k) (x := kk % 16) (y := kk / 16) r1 hk (by omega) (by omega) hc256 hCT.2.1 hCT.1) (fun v164 M164 hr164 => ?_)
          obtain ⟨rfl, MT', hm164, hMT'⟩ := hr164
          rw [hm164]
          dsimp only [Option.toList, List.cons_append, List.nil_append]
          have hpw : goR (bt (st.1 (kk / 16))) (bt (Q.2.1 (kk / 16))) (15 - kk % 16) (kk % 16 + 1) = goR (bt (sh k (kk / 16))) (bt (Q.2.1 (kk / 16))) (15 - kk % 16) (kk % 16 + 1) := goR_U hMU (by omega) _ _ (by omega) (by omega) (by rw [Nat.add_sub_cancel]; exact hUb)
          have hph : goR (fun e => bt (st.1 e) (kk % 16)) (fun e => bt (Q.1 e) (kk % 16)) (15 - kk / 16) (kk / 16 + 1) = goR (fun e => bt (sh k e) (kk % 16)) (fun e => bt (Q.1 e) (kk % 16)) (15 - kk / 16) (kk / 16 + 1) := goR_V hMU (by omega) _ _ (by omega) (by omega) (by rw [Nat.add_sub_cancel]; exact hUb)
          have w1 : kk % 16 + 1 ≤ goR (bt (sh k (kk / 16))) (bt (Q.2.1 (kk / 16))) (15 - kk % 16) (kk % 16 + 1) := goR_ge _ _
          have w2' := goR_le (g := bt (sh k (kk / 16))) (c := bt (Q.2.1 (kk / 16))) (15 - kk % 16) (kk % 16 + 1)
          have k1 : kk / 16 + 1 ≤ goR (fun e => bt (sh k e) (kk % 16)) (fun e => bt (Q.1 e) (kk % 16)) (15 - kk / 16) (kk / 16 + 1) := goR_ge _ _
          have k2 := goR_le (g := fun e => bt (sh k e) (kk % 16)) (c := fun e => bt (Q.1 e) (kk % 16)) (15 - kk / 16) (kk / 16 + 1)
          have hus : ust Q.1 Q.2.1 kk st = (clrem st.1 (kk % 16) (kk / 16) (goR (bt (sh k (kk / 16))) (bt (Q.2.1 (kk / 16))) (15 - kk % 16) (kk % 16 + 1) - kk % 16) (goR (fun e => bt (sh k e) (kk % 16)) (fun e => bt (Q.1 e) (kk % 16)) (15 - kk / 16) (kk / 16 + 1) - kk / 16), fapp st.2 (nI (kk % 16)) (nI (kk / 16)) (nI (goR (bt (sh k (kk / 16))) (bt (Q.2.1 (kk / 16))) (15 - kk % 16) (kk % 16 + 1) - kk % 16)) (nI (goR (fun e => bt (sh k e) (kk % 16)) (fun e => bt (Q.1 e) (kk % 16)) (15 - kk / 16) (kk / 16 + 1) - kk / 16))) := by
            unfold ust
            rw [if_pos hUb]
            unfold pw ph
            rw [hpw, hph]
          have hra := fun U' => rect_all (U := st.1) hLP hMU (x := kk % 16) (y := kk / 16) (by omega) (by omega) hUb (by rw [show 16 * (kk / 16) + kk % 16 = kk by omega]; exact hbe) rfl rfl U'
          generalize goR (bt (sh k (kk / 16))) (bt (Q.2.1 (kk / 16))) (15 - kk % 16) (kk % 16 + 1) = W at hpw w1 w2' hus hra hMT' ⊢
          generalize goR (fun e => bt (sh k e) (kk % 16)) (fun e => bt (Q.1 e) (kk % 16)) (15 - kk / 16) (kk / 16 + 1) = H at hph k1 k2 hus hra hMT' ⊢
          have hcb : ∀ r c, r < 16 → c < 16 → (bt (clrem st.1 (kk % 16) (kk / 16) (W - kk % 16) (H - kk / 16) r) c = true ↔ bt (st.1 r) c = true ∧ ¬ inR (kk % 16) (kk / 16) W H c r) := by
            intro r c hr hc
            have := clrem_bt (U := st.1) (x := kk % 16) (y := kk / 16) (w := W - kk % 16) (h := H - kk / 16) (by omega) hr hc
            rw [show kk % 16 + (W - kk % 16) = W by omega, show kk / 16 + (H - kk / 16) = H by omega] at this
            exact this
          have hra2 := hra _ hcb
          rw [show 16 * (kk / 16) + kk % 16 + 1 = kk + 1 by omega] at hra2
          have hpv := PVK_app (s := st.2) (a := kk % 16) (b := kk / 16) (c := W - kk % 16) (e' := H - kk / 16) (by rw [show 16 * (kk / 16) + kk % 16 = kk by omega]; exact hPV) (by omega) (by omega) (by omega) (by omega)
          rw [show 16 * (kk / 16) + kk % 16 + 1 = kk + 1 by omega] at hpv
          have hir := IRF_app (a := kk % 16) (b := kk / 16) (c := W - kk % 16) (e := H - kk / 16) hIR hc256 (by omega) (by omega) (by omega) (by omega)
          have hcn : (ust Q.1 Q.2.1 kk st).2.1 = st.2.1 + 1 := by
            rw [hus]
            show (fapp st.2 _ _ _ _).1 = _
            unfold fapp
            rw [if_pos hc256]
          first
            | (have w := zb_eq0.mp h142
               refine hno (Bool.eq_false_iff.mpr (fun z => ?_))
               have w : bt (sh k (kk / 16)) (kk % 16) = false := w
               have := hMU.1 (kk / 16) (kk % 16) (by omega) (by omega) z
               rw [w] at this
               exact absurd this (by decide))
            | (have w := zb_ne0.mp h151
               refine hno ?_
               cases hq : bt (st.1 (kk / 16)) (kk % 16)
               · rfl
               · rw [hq] at w; exact absurd w (by decide))
            | (rw [← hcn]
               refine hgo _ MT' _ rfl ?_ ?_ (fun r cc hr hcc hfc => ?_) ?_ ?_
               · rw [hus]; exact hra2.1
               · rw [hus]; exact hra2.2
               · rw [hMT' r cc hr hcc, hus]
                 show _ = zb (!(bt (clrem st.1 (kk % 16) (kk / 16) (W - kk % 16) (H - kk / 16) r) cc))
                 by_cases hin : inR (kk % 16) (kk / 16) W H cc r
                 · have e1 : bt (clrem st.1 (kk % 16) (kk / 16) (W - kk % 16) (H - kk / 16) r) cc = false := Bool.eq_false_iff.mpr (fun z => ((hcb r cc hr hcc).mp z).2 hin)
                   rw [e1]
                   exact if_pos hin
                 · rw [show (if (kk % 16 ≤ cc ∧ cc < W) ∧ kk / 16 ≤ r ∧ r < H then nI 1 else MT (16 * r + cc)) = MT (16 * r + cc) from if_neg hin, hMT r cc hr hcc hfc]
                   congr 2
                   apply Bool.eq_iff_iff.mpr
                   rw [hcb r cc hr hcc]
                   exact ⟨fun z => ⟨z, hin⟩, And.left⟩
               · rw [hus]; exact hir
               · rw [hus]; exact hpv.1)
  have h101 : ∀ (BL CT : Nat → Int32), CTR BL LF CT (hB Q) (vB Q) (pB Q) → ∀ (j i : Nat), i + j = 256 → mm_R S (d + 5) 188 101 [some (.ref 73), some (.int (nI k)), some (.int (nI i))] [] (mdm M (upa (upa (upa (upa (upa (upa (upa (upa (upa (upa A 96 X) 97 Y) 98 F) 99 T) 100 B) 104 EN) 101 BL) 102 LF) 103 CT) 106 (ifl (fun _ => nI 0) (A 106) i)) (upd (upd (upd (upd I 31 (nI nC)) 35 (nI c1)) 36 (nI c2)) 44 (nI 0))) (fun v M' => FM (mdm M A I) M' ∧ v = some (.int (nI (clall Q.1 Q.2.1 (sh k) u pi.2).2.1)) ∧ MI M' sh o l (clall Q.1 Q.2.1 (sh k) u pi.2).2 fa tp ∧ PV (clall Q.1 Q.2.1 (sh k) u pi.2).2) := by
    intro BL CT hCT j
    induction j with
    | zero =>
      intro i hi
      have hii : i = 256 := by omega
      subst hii
      refine R_iload_n (q := 102) rfl rfl rfl ?_
      refine R_sipush (q := 105) (v := nI 256) rfl rfl (by decide) ?_
      refine R_icmp_ge (q := 108) (t := 121) rfl rfl rfl (fun h105 => ?_) (fun h105 => absurd (nI_le (by omega) (by omega)) h105)
      refine R_iconst (q := 122) (v := nI 0) rfl rfl (by decide) ?_
      refine R_istore_n (q := 123) rfl rfl (Nat.le_of_ble_eq_true rfl) rfl ?_
      dsimp only [List.set]
      have h0 := h123 BL CT hCT 256 0 (ifl (sh k) u 16, (0, pi.2)) (ifl (fun _ => nI 0) (A 106) 256) (A 107) (by omega) ⟨fun y x hy hx w => by rw [show (ifl (sh k) u 16, (0, pi.2)).1 y = sh k y from ifl_lt hy] at w; exact w, fun y x hy hx hO => by rw [show (ifl (sh k) u 16, (0, pi.2)).1 y = sh k y from ifl_lt hy]; exact ⟨fun _ => hO.1.2, fun _ => hO.1.1⟩, fun y x hy hx hO => by rw [show (ifl (sh k) u 16, (0, pi.2)).1 y = sh k y from ifl_lt (by omega), show (ifl (sh k) u 16, (0, pi.2)).1 (y - 1) = sh k (y - 1) from ifl_lt (by omega)]; exact ⟨fun _ => hO.1.2, fun _ => hO.1.1⟩⟩ (fun y x _ _ hlt => absurd hlt (Nat.not_lt_zero _)) (fun r cc hr hcc hfc => by rw [ifl_lt (by omega), show (ifl (sh k) u 16, (0, pi.2)).1 r = sh k r from ifl_lt hr, hfc]; rfl) (fun i g hi => absurd hi (Nat.not_lt_zero _)) ⟨⟨Nat.zero_le _, fun i g hi => absurd hi (Nat.not_lt_zero _)⟩, fun i hi => absurd hi (Nat.not_lt_zero _), fun i j _ hj => absurd hj (Nat.not_lt_zero _)⟩ (by
        have := usl_y (lc := Q.1) (uc := Q.2.1) 16 0 (ifl (sh k) u 16, (0, pi.2))
        rw [Nat.mul_zero, show 16 * 16 = 256 from rfl] at this
        rw [this]
        rfl)
      rw [show A 107 = upa (upa (upa (upa (upa (upa (upa (upa (upa (upa A 96 X) 97 Y) 98 F) 99 T) 100 B) 104 EN) 101 BL) 102 LF) 103 CT) 106 (ifl (fun _ => nI 0) (A 106) 256) 107 from rfl, upa_s] at h0
      exact h0
    | succ j ih =>
      intro i hi
      refine R_iload_n (q := 102) rfl rfl rfl ?_
      refine R_sipush (q := 105) (v := nI 256) rfl rfl (by decide) ?_
      refine R_icmp_ge (q := 108) (t := 121) rfl rfl rfl (fun h105 => absurd h105 (nI_ge (by omega) (by omega))) (fun h105 => ?_)
      refine R_aload_n (q := 109) rfl rfl rfl ?_
      refine R_getf (q := 112) rfl rfl rfl md_73 rfl ?_
      refine R_iload_n (q := 113) rfl rfl rfl ?_
      refine R_iconst (q := 114) (v := nI 0) rfl rfl (by decide) ?_
      refine R_bastore (q := 115) rfl rfl md_106 (by first | assumption | exact in_nI (by omega) (by decide)) (by first | exact Or.inl rfl | exact Or.inr rfl) ?_
      rw [cl_nI (by omega)]
      rw [md_p106]
      rw [upa_u, upa_e, ifl_s (n := fun _ => nI 0)]
      refine R_iinc (q := 118) rfl rfl rfl (nI_i1 i) rfl ?_
      dsimp only [List.set]
      refine R_goto (t := 101) rfl rfl ?_
      exact ih (i + 1) (by omega)
  have h94 : ∀ (BL CT : Nat → Int32) (t2 : Option Value), CTR BL LF CT (hB Q) (vB Q) (pB Q) → mm_R S (d + 5) 188 94 [some (.ref 73), some (.int (nI k)), t2] [] (mdm M (upa (upa (upa (upa (upa (upa (upa (upa (upa A 96 X) 97 Y) 98 F) 99 T) 100 B) 104 EN) 101 BL) 102 LF) 103 CT) (upd (upd (upd I 31 (nI nC)) 35 (nI c1)) 36 (nI c2))) (fun v M' => FM (mdm M A I) M' ∧ v = some (.int (nI (clall Q.1 Q.2.1 (sh k) u pi.2).2.1)) ∧ MI M' sh o l (clall Q.1 Q.2.1 (sh k) u pi.2).2 fa tp ∧ PV (clall Q.1 Q.2.1 (sh k) u pi.2).2) := by
    intro BL CT t2 hCT
    refine R_aload_n (q := 95) rfl rfl rfl ?_
    refine R_iconst (q := 96) (v := nI 0) rfl rfl (by decide) ?_
    refine R_putf (q := 99) rfl rfl rfl md_73 (Nat.le_of_ble_eq_true rfl) rfl (fun hf => absurd hf (by decide)) rfl ?_
    dsimp only [List.set]
    rw [md_f44]
    refine R_iconst (q := 100) (v := nI 0) rfl rfl (by decide) ?_
    refine R_istore_n (q := 101) rfl rfl (Nat.le_of_ble_eq_true rfl) rfl ?_
    dsimp only [List.set]
    have h0 := h101 BL CT hCT 256 0 (by omega)
    rw [ifl_0, show A 106 = (upa (upa (upa (upa (upa (upa (upa (upa (upa A 96 X) 97 Y) 98 F) 99 T) 100 B) 104 EN) 101 BL) 102 LF) 103 CT) 106 from rfl, upa_s] at h0
    exact h0
  have hnC0 : nC ≤ 289 := by have h4 := hE.2.2.2; have := cnr_le (g := fun z => crn (sh k) (z % 17) (z / 17)) 289 0; omega
  have hcor : ∀ (j i : Nat) (q : QS) (BL CT : Nat → Int32), i + j = nC → CTR BL LF CT (hB q) (vB q) (pB q) → q.2.2.2 = qc.2.2.2 → qfl Iv (289 - (if i < nC then en i else 289)) (if i < nC then en i else 289) q = Q → mm_R S (d + 5) 188 39 [some (.ref 73), some (.int (nI k)), some (.int (nI i))] [] (mdm M (upa (upa (upa (upa (upa (upa (upa (upa (upa A 96 X) 97 Y) 98 F) 99 T) 100 B) 104 EN) 101 BL) 102 LF) 103 CT) (upd (upd (upd I 31 (nI nC)) 35 (nI c1)) 36 (nI c2))) (fun v M' => FM (mdm M A I) M' ∧ v = some (.int (nI (clall Q.1 Q.2.1 (sh k) u pi.2).2.1)) ∧ MI M' sh o l (clall Q.1 Q.2.1 (sh k) u pi.2).2 fa tp ∧ PV (clall Q.1 Q.2.1 (sh k) u pi.2).2) := by
    intro j
    induction j with
    | zero =>
      intro i q BL CT hi hC hqo hqf
      have hii : i = nC := by omega
      subst hii
      rw [if_neg (by omega)] at hqf
      have hqQ : q = Q := hqf
      refine R_iload_n (q := 40) rfl rfl rfl ?_
      refine R_aload_n (q := 41) rfl rfl rfl ?_
      refine R_getf (q := 44) rfl rfl rfl md_73 rfl ?_
      rw [upd_n (by decide), upd_n (by decide), upd_e]
      refine R_icmp_ge (q := 47) (t := 94) rfl rfl rfl (fun h44 => ?_) (fun h44 => absurd (nI_le (by omega) (by omega)) h44)
      exact h94 BL CT _ (hqQ ▸ hC)
    | succ j ih =>
      intro i q BL CT hi hC hqo hqf
      have hiC : i < nC := by omega
      have hnC : nC ≤ 289 := by have h4 := hE.2.2.2; have := cnr_le (g := fun z => crn (sh k) (z % 17) (z / 17)) 289 0; omega
      obtain ⟨⟨z1, z2⟩, z3, z4⟩ := hE.1 i hiC
      obtain ⟨z, hz⟩ : ∃ z, z = en i := ⟨_, rfl⟩
      rw [if_pos hiC] at hqf
      rw [← hz] at z1 z2 z3 z4 hqf
      have h15 := crn_15 z2 (by omega) (by omega)
      have hOq : OBC (sh k) q := OBC_cg hOBC hqo
      have eX : ∀ BL CT, (upa (upa (upa (upa (upa (upa (upa (upa (upa A 96 X) 97 Y) 98 F) 99 T) 100 B) 104 EN) 101 BL) 102 LF) 103 CT) 96 i = nI (z % 17) := fun _ _ => z3
      have eY : ∀ BL CT, (upa (upa (upa (upa (upa (upa (upa (upa (upa A 96 X) 97 Y) 98 F) 99 T) 100 B) 104 EN) 101 BL) 102 LF) 103 CT) 97 i = nI (z / 17) := fun _ _ => z4
      have eE : ∀ BL CT, (upa (upa (upa (upa (upa (upa (upa (upa (upa A 96 X) 97 Y) 98 F) 99 T) 100 B) 104 EN) 101 BL) 102 LF) 103 CT) 104 (17 * (z / 17) + z % 17) = zb (!(bt (q.2.2.2 (z / 17)) (z % 17))) := fun _ _ => by rw [hqo]; exact hEO (z % 17) (z / 17) (by omega) (by omega) z2
      have hnx : ∀ (q' : QS) (BL CT : Nat → Int32), q' = qst Iv z q → CTR BL LF CT (hB q') (vB q') (pB q') → mm_R S (d + 5) 188 88 [some (.ref 73), some (.int (nI k)), some (.int (nI i))] [] (mdm M (upa (upa (upa (upa (upa (upa (upa (upa (upa A 96 X) 97 Y) 98 F) 99 T) 100 B) 104 EN) 101 BL) 102 LF) 103 CT) (upd (upd (upd I 31 (nI nC)) 35 (nI c1)) 36 (nI c2))) (fun v M' => FM (mdm M A I) M' ∧ v = some (.int (nI (clall Q.1 Q.2.1 (sh k) u pi.2).2.1)) ∧ MI M' sh o l (clall Q.1 Q.2.1 (sh k) u pi.2).2 fa tp ∧ PV (clall Q.1 Q.2.1 (sh k) u pi.2).2) := by
        intro q' BL CT hq' hC'
        have hqo' : q'.2.2.2 = qc.2.2.2 := by rw [hq', qst_o]; exact hqo
        have hqf' : qfl Iv (289 - (z + 1)) (z + 1) q' = Q := by
          rw [hq', ← hqf, show 289 - z = (289 - (z + 1)) + 1 by omega]
          rfl
        have hnp : z + 1 ≤ (if i + 1 < nC then en (i + 1) else 289) ∧ (if i + 1 < nC then en (i + 1) else 289) ≤ 289 := by
          split
          · rename_i hw
            have := hE.2.2.1 i (i + 1) (by omega) hw
            have := (hE.1 (i + 1) hw).1.1
            omega
          · omega
        rw [qfl_sk (f := sh k) (OBC_cg hOBC hqo') hnp.1 hnp.2 (fun a a1 a2 w => by
          obtain ⟨i', i1, i2⟩ := hE.2.1 a (by omega) w
          by_cases hle : i' ≤ i
          · by_cases heq : i' = i
            · rw [heq] at i2; omega
            · have := hE.2.2.1 i' i (by omega) hiC; omega
          · by_cases heq : i' = i + 1
            · rw [heq] at i1 i2; rw [if_pos i1] at a2; omega
            · have h9 : i + 1 < nC := by omega
              rw [if_pos h9] at a2
              have := hE.2.2.1 (i + 1) i' (by omega) i1; omega)] at hqf'
        refine R_iinc (q := 91) rfl rfl rfl (nI_i1 i) rfl ?_
        dsimp only [List.set]
        refine R_goto (t := 39) rfl rfl ?_
        exact ih (i + 1) q' BL CT (by omega) hC' hqo' hqf'
      refine R_iload_n (q := 40) rfl rfl rfl ?_
      refine R_aload_n (q := 41) rfl rfl rfl ?_
      refine R_getf (q := 44) rfl rfl rfl md_73 rfl ?_
      rw [upd_n (by decide), upd_n (by decide), upd_e]
      refine R_icmp_ge (q := 47) (t := 94) rfl rfl rfl (fun h44 => absurd h44 (nI_ge (by omega) (by omega))) (fun h44 => ?_)
      refine R_aload_n (q := 48) rfl rfl rfl ?_
      refine R_getf (q := 51) rfl rfl rfl md_73 rfl ?_
      refine R_bipush (q := 53) (v := nI 17) rfl rfl (by decide) ?_
      refine R_aload_n (q := 54) rfl rfl rfl ?_
      refine R_getf (q := 57) rfl rfl rfl md_73 rfl ?_
      refine R_iload_n (q := 58) rfl rfl rfl ?_
      refine R_iaload (q := 59) rfl rfl md_97 (by decide) (by first | assumption | exact in_nI (by omega) (by decide)) ?_
      rw [cl_nI (by omega)]
      rw [eY]
      refine R_imul (q := 60) rfl rfl ?_
      rw [pk_mul]
      refine R_aload_n (q := 61) rfl rfl rfl ?_
      refine R_getf (q := 64) rfl rfl rfl md_73 rfl ?_
      refine R_iload_n (q := 65) rfl rfl rfl ?_
      refine R_iaload (q := 66) rfl rfl md_96 (by decide) (by first | assumption | exact in_nI (by omega) (by decide)) ?_
      rw [cl_nI (by omega)]
      rw [eX]
      refine R_iadd (q := 67) rfl rfl ?_
      rw [nI_add]
      refine R_baload (q := 68) rfl rfl md_104 (by decide) (by first | assumption | exact in_nI (by omega) (by decide)) ?_
      rw [cl_nI (by omega)]
      rw [eE]
      refine R_if_ne (q := 71) (t := 88) rfl rfl rfl (fun h68 => ?_) (fun h68 => ?_)
      · first
          | (have w := zb_ne0.mp h68
             refine hnx q BL CT ?_ hC
             unfold qst
             rw [if_neg (fun v => by rw [v] at w; exact absurd w (by decide))])
          | (have w := zb_eq0.mp h68
             refine hnx (qfrom q (z % 17) (z / 17) (Iv (z / 17))) BL' CT' ?_ hC'
             unfold qst
             rw [if_pos]
             cases hv : bt (q.2.2.2 (z / 17)) (z % 17)
             · rw [hv] at w; exact absurd w (by decide)
             · rfl)
      · refine R_aload_n (q := 72) rfl rfl rfl ?_
        refine R_iload_n (q := 73) rfl rfl rfl ?_
        refine R_aload_n (q := 74) rfl rfl rfl ?_
        refine R_getf (q := 77) rfl rfl rfl md_73 rfl ?_
        refine R_iload_n (q := 78) rfl rfl rfl ?_
        refine R_iaload (q := 79) rfl rfl md_96 (by decide) (by first | assumption | exact in_nI (by omega) (by decide)) ?_
        rw [cl_nI (by omega)]
        rw [eX]
        refine R_aload_n (q := 80) rfl rfl rfl ?_
        refine R_getf (q := 83) rfl rfl rfl md_73 rfl ?_
        refine R_iload_n (q := 84) rfl rfl rfl ?_
        refine R_iaload (q := 85) rfl rfl md_97 (by decide) (by first | assumption | exact in_nI (by omega) (by decide)) ?_
        rw [cl_nI (by omega)]
        rw [eY]
        refine R_callv3 (q := 88) rfl rfl rfl rfl md_73 (Nat.le_of_ble_eq_true rfl) rfl ?_
        refine R_mono (m186 (inn := Iv (z / 17)) (q := q) (x := z % 17) (y := z / 17) (s := k) r1 hk h15.1 h15.2 z2 (fun t ht => hIb (z / 17) t h15.2.1 h15.2.2 ht) hC) (fun v85 M85 hr85 => ?_)
        obtain ⟨rfl, BL', CT', hm85, hC'⟩ := hr85
        rw [hm85]
        dsimp only [Option.toList, List.cons_append, List.nil_append]
        first
          | (have w := zb_ne0.mp h68
             refine hnx q BL CT ?_ hC
             unfold qst
             rw [if_neg (fun v => by rw [v] at w; exact absurd w (by decide))])
          | (have w := zb_eq0.mp h68
             refine hnx (qfrom q (z % 17) (z / 17) (Iv (z / 17))) BL' CT' ?_ hC'
             unfold qst
             rw [if_pos]
             cases hv : bt (q.2.2.2 (z / 17)) (z % 17)
             · rw [hv] at w; exact absurd w (by decide)
             · rfl)
  refine R_iconst (q := 38) (v := nI 0) rfl rfl (by decide) ?_
  refine R_istore_n (q := 39) rfl rfl (Nat.le_of_ble_eq_true rfl) rfl ?_
  dsimp only [List.set]
  refine hcor nC 0 qc BL CT (by omega) hCT rfl ?_
  rw [← hQf]
  symm
  have hnp : (if 0 < nC then en 0 else 289) ≤ 289 := by
    split
    · rename_i hw; have := (hE.1 0 hw).1.1; omega
    · omega
  have hsk := qfl_sk (f := sh k) (Iv := Iv) hOBC (Nat.zero_le _) hnp (fun a a1 a2 w => by
    obtain ⟨i', i1, i2⟩ := hE.2.1 a (by omega) w
    by_cases heq : i' = 0
    · rw [heq] at i1 i2; rw [if_pos i1] at a2; omega
    · have h9 : 0 < nC := by omega
      rw [if_pos h9] at a2
      have := hE.2.2.1 0 i' (by omega) i1; omega)
  exact hsk
end P72
