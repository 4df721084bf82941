/-! ===== the reference's own calls, XII: expand ===== -/
def ir4 (r : R4) (c y : Nat) : Bool := irc r.1.toNatClampNeg r.2.1.toNatClampNeg r.2.2.1.toNatClampNeg r.2.2.2.toNatClampNeg c y
theorem fold_bt {L : List R4} : ∀ (g : Nat → Int32), (∀ r, r ∈ L → on4 r = true) → ∀ y c, c < 16 → (bt (L.foldl add4 g y) c = true ↔ bt (g y) c = true ∨ ∃ r, r ∈ L ∧ ir4 r c y = true) := by
  induction L with
  | nil => intro g _ y c _; exact ⟨fun h => Or.inl h, fun h => h.elim id (fun ⟨r, hr, _⟩ => absurd hr (List.not_mem_nil))⟩
  | cons a L ih =>
    intro g h y c hc
    show bt (L.foldl add4 (add4 g a) y) c = true ↔ _
    rw [ih (add4 g a) (fun r hr => h r (List.mem_cons_of_mem _ hr)) y c hc, b_add4 (h a (List.mem_cons_self)) hc, Bool.or_eq_true]
    constructor
    · intro z
      rcases z with (z | z) | ⟨r, z1, z2⟩
      · exact Or.inl z
      · exact Or.inr ⟨a, List.mem_cons_self, z⟩
      · exact Or.inr ⟨r, List.mem_cons_of_mem _ z1, z2⟩
    · intro z
      rcases z with z | ⟨r, z1, z2⟩
      · exact Or.inl (Or.inl z)
      · rcases List.mem_cons.mp z1 with rfl | z1
        · exact Or.inl (Or.inr z2)
        · exact Or.inr ⟨r, z1, z2⟩
def flk (lf f : Nat → Int32) : Nat → Nat → Int32
  | 0 => f
  | k + 1 => add4 (flk lf f k) (rec4 lf k)
theorem flk_bt {lf f : Nat → Int32} : ∀ k, (∀ i, i < k → on4 (rec4 lf i) = true) → ∀ y c, c < 16 → (bt (flk lf f k y) c = true ↔ bt (f y) c = true ∨ ∃ r, MB lf k r ∧ ir4 r c y = true) := by
  intro k
  induction k with
  | zero => intro _ y c _; exact ⟨fun h => Or.inl h, fun h => h.elim id (fun ⟨r, ⟨i, hi, _⟩, _⟩ => absurd hi (Nat.not_lt_zero _))⟩
  | succ k ih =>
    intro h y c hc
    show bt (add4 (flk lf f k) (rec4 lf k) y) c = true ↔ _
    rw [b_add4 (h k (by omega)) hc, Bool.or_eq_true, ih (fun i hi => h i (by omega)) y c hc]
    constructor
    · intro z
      rcases z with (z | ⟨r, ⟨i, z1, z2⟩, z3⟩) | z
      · exact Or.inl z
      · exact Or.inr ⟨r, ⟨i, by omega, z2⟩, z3⟩
      · exact Or.inr ⟨rec4 lf k, ⟨k, by omega, rfl⟩, z⟩
    · intro z
      rcases z with z | ⟨r, ⟨i, z1, z2⟩, z3⟩
      · exact Or.inl (Or.inl z)
      · by_cases hq : i = k
        · subst hq; rw [← z2] at z3; exact Or.inr z3
        · exact Or.inl (Or.inr ⟨r, ⟨i, by omega, z2⟩, z3⟩)
theorem exs_bt {l : LYS} {c : Nat} {x y : Int32} {f lf : Nat → Int32} {n : Nat} (hm : ∀ r, MB lf n r ↔ r ∈ lrs l c x y) (ho : ∀ i, i < n → on4 (rec4 lf i) = true) : ∀ y' x', y' < 16 → x' < 16 → bt (exs l c x y f y') x' = bt (flk lf f n y') x' := by
  intro y' x' hy hx
  have ho2 : ∀ r, r ∈ lrs l c x y → on4 r = true := fun r hr => by
    obtain ⟨i, hi, h⟩ := (hm r).mpr hr
    rw [← h]; exact ho i hi
  unfold exs
  rw [ifl_lt hy, b_or]
  apply Bool.eq_iff_iff.mpr
  rw [Bool.or_eq_true, fold_bt _ ho2 y' x' hx, flk_bt n ho y' x' hx, show bt (nI 0) x' = false from b_0 x']
  constructor
  · intro z
    rcases z with z | z | ⟨r, z1, z2⟩
    · exact Or.inl z
    · exact absurd z (by decide)
    · exact Or.inr ⟨r, (hm r).mpr z1, z2⟩
  · intro z
    rcases z with z | ⟨r, z1, z2⟩
    · exact Or.inl z
    · exact Or.inr (Or.inr ⟨r, (hm r).mp z1, z2⟩)
section P56
variable {S : mm_S} {d : Nat} {M : mm_M} {A : AS} {I : Nat → Int32} {sh : Nat → Nat → Int32} {o : OS} {l : LYS} {pi fa tp : IS}
set_option maxRecDepth 8000 in
theorem m168 {s c x y : Int32} (hV : VS sh o l pi fa tp) (h : MRl A I sh o l pi fa tp) : mm_R S (d + 2) 168 0 (mm_en 168 [.ref 73, .int s, .int c, .int x, .int y]) [] (mdm M A I) (fun v M' => FM (mdm M A I) M' ∧ ((((shp s ∧ shp c) ∧ upt x 32 ∧ upt y 32) ∧ ltt l (sn c) ≤ 200 ∧ (lrs l (sn c) x y).all on4 = true) ∧ v = some (.int (nI (ltt l (sn c)))) ∧ MI M' (ups sh (sn s) (exs l (sn c) x y (sh (sn s)))) o l pi fa tp ∨ ¬ (((shp s ∧ shp c) ∧ upt x 32 ∧ upt y 32) ∧ ltt l (sn c) ≤ 200 ∧ (lrs l (sn c) x y).all on4 = true) ∧ v = some (.int (-1000)) ∧ MI M' sh o l pi fa tp)) := by
  show mm_R S (d + 2) 168 0 [some (.ref 73), some (.int s), some (.int c), some (.int x), some (.int y), none] [] (mdm M A I) _
  obtain ⟨r1, r2, r3, r4, r5, r6, r7, r8⟩ := id h
  refine R_iload_n (q := 1) rfl rfl rfl ?_
  refine R_calls1 (q := 4) rfl rfl rfl rfl (Nat.le_of_ble_eq_true rfl) rfl ?_
  refine R_mono (m148) (fun v1 M1 hr1 => ?_)
  obtain ⟨rfl, hm1⟩ := hr1
  rw [hm1]
  dsimp only [Option.toList, List.cons_append, List.nil_append]
  refine R_if_eq (q := 7) (t := 37) rfl rfl rfl (fun h4 => ?_) (fun h4 => ?_)
  · refine R_sipush (q := 40) (v := (-1000)) rfl rfl (by decide) ?_
    refine R_ireturn rfl rfl ?_
    first
      | exact ⟨FM_md, Or.inr ⟨(fun hP => absurd hP.1.1.1 (of_decide_eq_false (zb_eq0.mp h4))), rfl, MI_md h⟩⟩
      | exact ⟨FM_md, Or.inr ⟨(fun hP => absurd hP.1.1.2 (of_decide_eq_false (zb_eq0.mp h11))), rfl, MI_md h⟩⟩
      | exact ⟨FM_md, Or.inr ⟨(fun hP => of_decide_eq_false (zb_eq0.mp h22) (by have q1 := hP.1.2.1; rw [ikm_32, ik_32]; omega)), rfl, MI_md h⟩⟩
      | exact ⟨FM_md, Or.inr ⟨(fun hP => of_decide_eq_false (zb_eq0.mp h34) (by have q1 := hP.1.2.2; rw [ikm_32, ik_32]; omega)), rfl, MI_md h⟩⟩
  · refine R_iload_n (q := 8) rfl rfl rfl ?_
    refine R_calls1 (q := 11) rfl rfl rfl rfl (Nat.le_of_ble_eq_true rfl) rfl ?_
    refine R_mono (m159) (fun v8 M8 hr8 => ?_)
    obtain ⟨rfl, hm8⟩ := hr8
    rw [hm8]
    dsimp only [Option.toList, List.cons_append, List.nil_append]
    refine R_if_eq (q := 14) (t := 37) rfl rfl rfl (fun h11 => ?_) (fun h11 => ?_)
    · refine R_sipush (q := 40) (v := (-1000)) rfl rfl (by decide) ?_
      refine R_ireturn rfl rfl ?_
      first
        | exact ⟨FM_md, Or.inr ⟨(fun hP => absurd hP.1.1.1 (of_decide_eq_false (zb_eq0.mp h4))), rfl, MI_md h⟩⟩
        | exact ⟨FM_md, Or.inr ⟨(fun hP => absurd hP.1.1.2 (of_decide_eq_false (zb_eq0.mp h11))), rfl, MI_md h⟩⟩
        | exact ⟨FM_md, Or.inr ⟨(fun hP => of_decide_eq_false (zb_eq0.mp h22) (by have q1 := hP.1.2.1; rw [ikm_32, ik_32]; omega)), rfl, MI_md h⟩⟩
        | exact ⟨FM_md, Or.inr ⟨(fun hP => of_decide_eq_false (zb_eq0.mp h34) (by have q1 := hP.1.2.2; rw [ikm_32, ik_32]; omega)), rfl, MI_md h⟩⟩
    · refine R_iload_n (q := 15) rfl rfl rfl ?_
      refine R_bipush (q := 17) (v := (-32)) rfl rfl (by decide) ?_
      refine R_bipush (q := 19) (v := nI 32) rfl rfl (by decide) ?_
      refine R_calls3 (q := 22) rfl rfl rfl rfl (Nat.le_of_ble_eq_true rfl) rfl ?_
      refine R_mono (m147) (fun v19 M19 hr19 => ?_)
      obtain ⟨rfl, hm19⟩ := hr19
      rw [hm19]
      dsimp only [Option.toList, List.cons_append, List.nil_append]
      refine R_if_eq (q := 25) (t := 37) rfl rfl rfl (fun h22 => ?_) (fun h22 => ?_)
      · refine R_sipush (q := 40) (v := (-1000)) rfl rfl (by decide) ?_
        refine R_ireturn rfl rfl ?_
        first
          | exact ⟨FM_md, Or.inr ⟨(fun hP => absurd hP.1.1.1 (of_decide_eq_false (zb_eq0.mp h4))), rfl, MI_md h⟩⟩
          | exact ⟨FM_md, Or.inr ⟨(fun hP => absurd hP.1.1.2 (of_decide_eq_false (zb_eq0.mp h11))), rfl, MI_md h⟩⟩
          | exact ⟨FM_md, Or.inr ⟨(fun hP => of_decide_eq_false (zb_eq0.mp h22) (by have q1 := hP.1.2.1; rw [ikm_32, ik_32]; omega)), rfl, MI_md h⟩⟩
          | exact ⟨FM_md, Or.inr ⟨(fun hP => of_decide_eq_false (zb_eq0.mp h34) (by have q1 := hP.1.2.2; rw [ikm_32, ik_32]; omega)), rfl, MI_md h⟩⟩
      · refine R_iload (q := 27) rfl rfl rfl ?_
        refine R_bipush (q := 29) (v := (-32)) rfl rfl (by decide) ?_
        refine R_bipush (q := 31) (v := nI 32) rfl rfl (by decide) ?_
        refine R_calls3 (q := 34) rfl rfl rfl rfl (Nat.le_of_ble_eq_true rfl) rfl ?_
        refine R_mono (m147) (fun v31 M31 hr31 => ?_)
        obtain ⟨rfl, hm31⟩ := hr31
        rw [hm31]
        dsimp only [Option.toList, List.cons_append, List.nil_append]
        refine R_if_ne (q := 37) (t := 41) rfl rfl rfl (fun h34 => ?_) (fun h34 => ?_)
        · have hP0 : (shp s ∧ shp c) ∧ upt x 32 ∧ upt y 32 := by
            have g3 := of_decide_eq_true (zb_ne0.mp h22)
            have g4 := of_decide_eq_true (zb_ne0.mp h34)
            rw [ikm_32, ik_32] at g3 g4
            exact ⟨⟨of_decide_eq_true (zb_ne0.mp h4), of_decide_eq_true (zb_ne0.mp h11)⟩, g3, g4⟩
          obtain ⟨k1, hk1, rfl⟩ := i_ix (a := s) 6 (by decide) hP0.1.1.1 hP0.1.1.2
          obtain ⟨k2, hk2, rfl⟩ := i_ix (a := c) 6 (by decide) hP0.1.2.1 hP0.1.2.2
          rw [show sn (nI k1) = k1 from cl_nI (by omega), show sn (nI k2) = k2 from cl_nI (by omega)]
          have hlt : ltt l k2 = TT l k2 := TT_lt (by omega) (by omega)
          have hS : ∀ i, i < 6 → (upa A 92 (ifl (fun i => nI (totL l.1 l.2.1 l.2.2.2.1 6 i)) (A 92) 6)) 92 i = nI (TT l i) := fun i hi => by rw [upa_e, ifl_lt hi]; rfl
          have hT201 : TT l k2 ≤ 201 := totL_le _ _
          have h142 : ∀ (td lf : Nat → Int32), (∀ r, MB lf (TT l k2) r ↔ r ∈ RR l (k2, 0, x, y)) → (∀ i, i < TT l k2 → on4 (rec4 lf i) = true) → TT l k2 ≤ 200 → ∀ (j i : Nat) (F : Nat → Int32), i + j = TT l k2 → CRl (upa (upa (upa (upa A 92 (ifl (fun i => nI (totL l.1 l.2.1 l.2.2.2.1 6 i)) (A 92) 6)) 93 td) 95 lf) 74 F) (ups sh k1 (flk lf (sh k1) i)) → mm_R S (d + 2) 168 142 [some (.ref 73), some (.int (nI k1)), some (.int (nI k2)), some (.int x), some (.int y), some (.int (nI i))] [] (mdm M (upa (upa (upa (upa A 92 (ifl (fun i => nI (totL l.1 l.2.1 l.2.2.2.1 6 i)) (A 92) 6)) 93 td) 95 lf) 74 F) (upd I 28 (nI (TT l k2)))) (fun v M' => FM (mdm M A I) M' ∧ ((((shp (nI k1) ∧ shp (nI k2)) ∧ upt x 32 ∧ upt y 32) ∧ ltt l k2 ≤ 200 ∧ (lrs l k2 x y).all on4 = true) ∧ v = some (.int (nI (ltt l k2))) ∧ MI M' (ups sh k1 (exs l k2 x y (sh k1))) o l pi fa tp ∨ ¬ (((shp (nI k1) ∧ shp (nI k2)) ∧ upt x 32 ∧ upt y 32) ∧ ltt l k2 ≤ 200 ∧ (lrs l k2 x y).all on4 = true) ∧ v = some (.int (-1000)) ∧ MI M' sh o l pi fa tp)) := by
            intro td lf hmb hon hT2 j
            induction j with
            | zero =>
              intro i F hi hcr
              have hii : i = TT l k2 := by omega
              subst hii
              refine R_iload (q := 144) rfl rfl rfl ?_
              refine R_aload_n (q := 145) rfl rfl rfl ?_
              refine R_getf (q := 148) rfl rfl rfl md_73 rfl ?_
              rw [upd_e]
              refine R_icmp_ge (q := 151) (t := 204) rfl rfl rfl (fun h148 => ?_) (fun h148 => absurd (nI_le (by omega) (by omega)) h148)
              refine R_aload_n (q := 205) rfl rfl rfl ?_
              refine R_getf (q := 208) rfl rfl rfl md_73 rfl ?_
              rw [upd_e]
              refine R_ireturn rfl rfl ?_
              refine ⟨FM_md, Or.inl ⟨⟨hP0, by rw [hlt]; exact hT2, ?_⟩, by rw [hlt], MI_md ⟨?_, r2, r3, r4, r5, r6, r7, r8⟩⟩⟩
              · refine List.all_eq_true.mpr (fun r hr => ?_)
                obtain ⟨a, ha, hra⟩ := (hmb r).mpr hr
                rw [← hra]
                exact hon a ha
              · exact CR_cg hcr (exs_bt hmb hon)
            | succ j ih =>
              intro i F hi hcr
              have hon1 := hon i (by omega)
              have e0 : upa (upa (upa (upa A 92 (ifl (fun i => nI (totL l.1 l.2.1 l.2.2.2.1 6 i)) (A 92) 6)) 93 td) 95 lf) 74 F 95 (4 * i) = (rec4 lf i).1 := rfl
              have e1 : upa (upa (upa (upa A 92 (ifl (fun i => nI (totL l.1 l.2.1 l.2.2.2.1 6 i)) (A 92) 6)) 93 td) 95 lf) 74 F 95 (4 * i + 1) = (rec4 lf i).2.1 := rfl
              have e2 : upa (upa (upa (upa A 92 (ifl (fun i => nI (totL l.1 l.2.1 l.2.2.2.1 6 i)) (A 92) 6)) 93 td) 95 lf) 74 F 95 (4 * i + 2) = (rec4 lf i).2.2.1 := rfl
              have e3 : upa (upa (upa (upa A 92 (ifl (fun i => nI (totL l.1 l.2.1 l.2.2.2.1 6 i)) (A 92) 6)) 93 td) 95 lf) 74 F 95 (4 * i + 3) = (rec4 lf i).2.2.2 := rfl
              refine R_iload (q := 144) rfl rfl rfl ?_
              refine R_aload_n (q := 145) rfl rfl rfl ?_
              refine R_getf (q := 148) rfl rfl rfl md_73 rfl ?_
              rw [upd_e]
              refine R_icmp_ge (q := 151) (t := 204) rfl rfl rfl (fun h148 => absurd h148 (nI_ge (by omega) (by omega))) (fun h148 => ?_)
              refine R_aload_n (q := 152) rfl rfl rfl ?_
              refine R_iload_n (q := 153) rfl rfl rfl ?_
              refine R_aload_n (q := 154) rfl rfl rfl ?_
              refine R_getf (q := 157) rfl rfl rfl md_73 rfl ?_
              refine R_iconst (q := 158) (v := nI 4) rfl rfl (by decide) ?_
              refine R_iload (q := 160) rfl rfl rfl ?_
              refine R_imul (q := 161) rfl rfl ?_
              rw [pk_mul]
              refine R_iaload (q := 162) rfl rfl md_95 (by decide) (by first | assumption | exact in_nI (by omega) (by decide)) ?_
              rw [cl_nI (by omega)]
              rw [e0]
              refine R_aload_n (q := 163) rfl rfl rfl ?_
              refine R_getf (q := 166) rfl rfl rfl md_73 rfl ?_
              refine R_iconst (q := 167) (v := nI 4) rfl rfl (by decide) ?_
              refine R_iload (q := 169) rfl rfl rfl ?_
              refine R_imul (q := 170) rfl rfl ?_
              rw [pk_mul]
              refine R_iconst (q := 171) (v := nI 1) rfl rfl (by decide) ?_
              refine R_iadd (q := 172) rfl rfl ?_
              rw [nI_add]
              refine R_iaload (q := 173) rfl rfl md_95 (by decide) (by first | assumption | exact in_nI (by omega) (by decide)) ?_
              rw [cl_nI (by omega)]
              rw [e1]
              refine R_aload_n (q := 174) rfl rfl rfl ?_
              refine R_getf (q := 177) rfl rfl rfl md_73 rfl ?_
              refine R_iconst (q := 178) (v := nI 4) rfl rfl (by decide) ?_
              refine R_iload (q := 180) rfl rfl rfl ?_
              refine R_imul (q := 181) rfl rfl ?_
              rw [pk_mul]
              refine R_iconst (q := 182) (v := nI 2) rfl rfl (by decide) ?_
              refine R_iadd (q := 183) rfl rfl ?_
              rw [nI_add]
              refine R_iaload (q := 184) rfl rfl md_95 (by decide) (by first | assumption | exact in_nI (by omega) (by decide)) ?_
              rw [cl_nI (by omega)]
              rw [e2]
              refine R_aload_n (q := 185) rfl rfl rfl ?_
              refine R_getf (q := 188) rfl rfl rfl md_73 rfl ?_
              refine R_iconst (q := 189) (v := nI 4) rfl rfl (by decide) ?_
              refine R_iload (q := 191) rfl rfl rfl ?_
              refine R_imul (q := 192) rfl rfl ?_
              rw [pk_mul]
              refine R_iconst (q := 193) (v := nI 3) rfl rfl (by decide) ?_
              refine R_iadd (q := 194) rfl rfl ?_
              rw [nI_add]
              refine R_iaload (q := 195) rfl rfl md_95 (by decide) (by first | assumption | exact in_nI (by omega) (by decide)) ?_
              rw [cl_nI (by omega)]
              rw [e3]
              refine R_callv5 (q := 198) rfl rfl rfl rfl md_73 (Nat.le_of_ble_eq_true rfl) rfl ?_
              refine R_mono (m150r (r := rec4 lf i) hcr hk1 hon1) (fun v195 M195 hr195 => ?_)
              obtain ⟨rfl, F2, hm195, hcr2⟩ := hr195
              rw [hm195]
              dsimp only [Option.toList, List.cons_append, List.nil_append]
              refine R_iinc (q := 201) rfl rfl rfl (nI_i1 i) rfl ?_
              dsimp only [List.set]
              refine R_goto (t := 142) rfl rfl ?_
              rw [upa_u] at hcr2 ⊢
              rw [ups_u, ups_e] at hcr2
              exact ih (i + 1) F2 (by omega) hcr2
          have h72 : ∀ (td lf : Nat → Int32), (∀ r, MB lf (TT l k2) r ↔ r ∈ RR l (k2, 0, x, y)) → TT l k2 ≤ 200 → ∀ (j i : Nat), i + j = TT l k2 → (∀ a, a < i → on4 (rec4 lf a) = true) → mm_R S (d + 2) 168 72 [some (.ref 73), some (.int (nI k1)), some (.int (nI k2)), some (.int x), some (.int y), some (.int (nI i))] [] (mdm M (upa (upa (upa A 92 (ifl (fun i => nI (totL l.1 l.2.1 l.2.2.2.1 6 i)) (A 92) 6)) 93 td) 95 lf) (upd I 28 (nI (TT l k2)))) (fun v M' => FM (mdm M A I) M' ∧ ((((shp (nI k1) ∧ shp (nI k2)) ∧ upt x 32 ∧ upt y 32) ∧ ltt l k2 ≤ 200 ∧ (lrs l k2 x y).all on4 = true) ∧ v = some (.int (nI (ltt l k2))) ∧ MI M' (ups sh k1 (exs l k2 x y (sh k1))) o l pi fa tp ∨ ¬ (((shp (nI k1) ∧ shp (nI k2)) ∧ upt x 32 ∧ upt y 32) ∧ ltt l k2 ≤ 200 ∧ (lrs l k2 x y).all on4 = true) ∧ v = some (.int (-1000)) ∧ MI M' sh o l pi fa tp)) := by
            intro td lf hmb hT2 j
            induction j with
            | zero =>
              intro i hi hon
              have hii : i = TT l k2 := by omega
              subst hii
              refine R_iload (q := 74) rfl rfl rfl ?_
              refine R_aload_n (q := 75) rfl rfl rfl ?_
              refine R_getf (q := 78) rfl rfl rfl md_73 rfl ?_
              rw [upd_e]
              refine R_icmp_ge (q := 81) (t := 139) rfl rfl rfl (fun h78 => ?_) (fun h78 => absurd (nI_le (by omega) (by omega)) h78)
              refine R_iconst (q := 140) (v := nI 0) rfl rfl (by decide) ?_
              refine R_istore (q := 142) rfl rfl (Nat.le_of_ble_eq_true rfl) rfl ?_
              dsimp only [List.set]
              have h0 := h142 td lf hmb hon hT2 (TT l k2) 0 (A 74) (by omega) (by
                rw [show A 74 = (upa (upa (upa A 92 (ifl (fun i => nI (totL l.1 l.2.1 l.2.2.2.1 6 i)) (A 92) 6)) 93 td) 95 lf) 74 from rfl, upa_s]
                intro s y x hs hy hx
                rw [show ups sh k1 (flk lf (sh k1) 0) = sh from by
                  funext t
                  show ups sh k1 (sh k1) t = sh t
                  unfold ups
                  by_cases z : t = k1
                  · rw [if_pos z, z]
                  · rw [if_neg z]]
                exact r1 s y x hs hy hx)
              rw [show A 74 = (upa (upa (upa A 92 (ifl (fun i => nI (totL l.1 l.2.1 l.2.2.2.1 6 i)) (A 92) 6)) 93 td) 95 lf) 74 from rfl, upa_s] at h0
              exact h0
            | succ j ih =>
              intro i hi hon
              have e0 : (upa (upa (upa A 92 (ifl (fun i => nI (totL l.1 l.2.1 l.2.2.2.1 6 i)) (A 92) 6)) 93 td) 95 lf) 95 (4 * i) = (rec4 lf i).1 := rfl
              have e1 : (upa (upa (upa A 92 (ifl (fun i => nI (totL l.1 l.2.1 l.2.2.2.1 6 i)) (A 92) 6)) 93 td) 95 lf) 95 (4 * i + 1) = (rec4 lf i).2.1 := rfl
              have e2 : (upa (upa (upa A 92 (ifl (fun i => nI (totL l.1 l.2.1 l.2.2.2.1 6 i)) (A 92) 6)) 93 td) 95 lf) 95 (4 * i + 2) = (rec4 lf i).2.2.1 := rfl
              have e3 : (upa (upa (upa A 92 (ifl (fun i => nI (totL l.1 l.2.1 l.2.2.2.1 6 i)) (A 92) 6)) 93 td) 95 lf) 95 (4 * i + 3) = (rec4 lf i).2.2.2 := rfl
              refine R_iload (q := 74) rfl rfl rfl ?_
              refine R_aload_n (q := 75) rfl rfl rfl ?_
              refine R_getf (q := 78) rfl rfl rfl md_73 rfl ?_
              rw [upd_e]
              refine R_icmp_ge (q := 81) (t := 139) rfl rfl rfl (fun h78 => absurd h78 (nI_ge (by omega) (by omega))) (fun h78 => ?_)
              refine R_aload_n (q := 82) rfl rfl rfl ?_
              refine R_getf (q := 85) rfl rfl rfl md_73 rfl ?_
              refine R_iconst (q := 86) (v := nI 4) rfl rfl (by decide) ?_
              refine R_iload (q := 88) rfl rfl rfl ?_
              refine R_imul (q := 89) rfl rfl ?_
              rw [pk_mul]
              refine R_iaload (q := 90) rfl rfl md_95 (by decide) (by first | assumption | exact in_nI (by omega) (by decide)) ?_
              rw [cl_nI (by omega)]
              rw [e0]
              refine R_aload_n (q := 91) rfl rfl rfl ?_
              refine R_getf (q := 94) rfl rfl rfl md_73 rfl ?_
              refine R_iconst (q := 95) (v := nI 4) rfl rfl (by decide) ?_
              refine R_iload (q := 97) rfl rfl rfl ?_
              refine R_imul (q := 98) rfl rfl ?_
              rw [pk_mul]
              refine R_iconst (q := 99) (v := nI 1) rfl rfl (by decide) ?_
              refine R_iadd (q := 100) rfl rfl ?_
              rw [nI_add]
              refine R_iaload (q := 101) rfl rfl md_95 (by decide) (by first | assumption | exact in_nI (by omega) (by decide)) ?_
              rw [cl_nI (by omega)]
              rw [e1]
              refine R_aload_n (q := 102) rfl rfl rfl ?_
              refine R_getf (q := 105) rfl rfl rfl md_73 rfl ?_
              refine R_iconst (q := 106) (v := nI 4) rfl rfl (by decide) ?_
              refine R_iload (q := 108) rfl rfl rfl ?_
              refine R_imul (q := 109) rfl rfl ?_
              rw [pk_mul]
              refine R_iconst (q := 110) (v := nI 2) rfl rfl (by decide) ?_
              refine R_iadd (q := 111) rfl rfl ?_
              rw [nI_add]
              refine R_iaload (q := 112) rfl rfl md_95 (by decide) (by first | assumption | exact in_nI (by omega) (by decide)) ?_
              rw [cl_nI (by omega)]
              rw [e2]
              refine R_aload_n (q := 113) rfl rfl rfl ?_
              refine R_getf (q := 116) rfl rfl rfl md_73 rfl ?_
              refine R_iconst (q := 117) (v := nI 4) rfl rfl (by decide) ?_
              refine R_iload (q := 119) rfl rfl rfl ?_
              refine R_imul (q := 120) rfl rfl ?_
              rw [pk_mul]
              refine R_iconst (q := 121) (v := nI 3) rfl rfl (by decide) ?_
              refine R_iadd (q := 122) rfl rfl ?_
              rw [nI_add]
              refine R_iaload (q := 123) rfl rfl md_95 (by decide) (by first | assumption | exact in_nI (by omega) (by decide)) ?_
              rw [cl_nI (by omega)]
              rw [e3]
              refine R_calls4 (q := 126) rfl rfl rfl rfl (Nat.le_of_ble_eq_true rfl) rfl ?_
              refine R_mono (m151) (fun v123 M123 hr123 => ?_)
              obtain ⟨rfl, hm123⟩ := hr123
              rw [hm123]
              dsimp only [Option.toList, List.cons_append, List.nil_append]
              refine R_if_ne (q := 129) (t := 133) rfl rfl rfl (fun h126 => ?_) (fun h126 => ?_)
              · refine R_iinc (q := 136) rfl rfl rfl (nI_i1 i) rfl ?_
                dsimp only [List.set]
                refine R_goto (t := 72) rfl rfl ?_
                refine ih (i + 1) (by omega) (fun a ha => ?_)
                by_cases hq : a = i
                · rw [hq]; exact zb_ne0.mp h126
                · exact hon a (by omega)
              · refine R_sipush (q := 132) (v := (-1000)) rfl rfl (by decide) ?_
                refine R_ireturn rfl rfl ?_
                refine ⟨FM_md, Or.inr ⟨fun hP => ?_, rfl, MI_md ⟨r1, r2, r3, r4, r5, r6, r7, r8⟩⟩⟩
                have h1 := List.all_eq_true.mp hP.2.2 (rec4 lf i) ((hmb _).mp ⟨i, by omega, rfl⟩)
                exact absurd (h1.symm.trans (zb_eq0.mp h126)) (by decide)
          refine R_aload_n (q := 42) rfl rfl rfl ?_
          refine R_callv0 (q := 45) rfl rfl rfl rfl md_73 (Nat.le_of_ble_eq_true rfl) rfl ?_
          refine R_mono (m165 hV r3) (fun v42 M42 hr42 => ?_)
          obtain ⟨rfl, hm42⟩ := hr42
          rw [hm42]
          dsimp only [Option.toList, List.cons_append, List.nil_append]
          refine R_aload_n (q := 46) rfl rfl rfl ?_
          refine R_getf (q := 49) rfl rfl rfl md_73 rfl ?_
          refine R_iload_n (q := 50) rfl rfl rfl ?_
          refine R_iaload (q := 51) rfl rfl md_92 (by decide) (by first | assumption | exact in_nI (by omega) (by decide)) ?_
          rw [cl_nI (by omega)]
          rw [hS k2 hk2]
          refine R_sipush (q := 54) (v := nI 200) rfl rfl (by decide) ?_
          refine R_icmp_le (q := 57) (t := 61) rfl rfl rfl (fun h54 => ?_) (fun h54 => ?_)
          · have hT2 : TT l k2 ≤ 200 := by rw [i_le, i_n _ (by omega), ik_200] at h54; omega
            refine R_aload_n (q := 62) rfl rfl rfl ?_
            refine R_iload_n (q := 63) rfl rfl rfl ?_
            refine R_iload_n (q := 64) rfl rfl rfl ?_
            refine R_iload (q := 66) rfl rfl rfl ?_
            refine R_callv3 (q := 69) rfl rfl rfl rfl md_73 (Nat.le_of_ble_eq_true rfl) rfl ?_
            refine R_mono (m167 hV r3 r8 hS hk2 hT2 hP0.2.1 hP0.2.2) (fun v66 M66 hr66 => ?_)
            obtain ⟨rfl, td, lf, hm66, hmb⟩ := hr66
            rw [hm66]
            dsimp only [Option.toList, List.cons_append, List.nil_append]
            refine R_iconst (q := 70) (v := nI 0) rfl rfl (by decide) ?_
            refine R_istore (q := 72) rfl rfl (Nat.le_of_ble_eq_true rfl) rfl ?_
            dsimp only [List.set]
            exact h72 td lf hmb hT2 (TT l k2) 0 (by omega) (fun a ha => absurd ha (Nat.not_lt_zero _))
          · refine R_sipush (q := 60) (v := (-1000)) rfl rfl (by decide) ?_
            refine R_ireturn rfl rfl ?_
            refine ⟨FM_md, Or.inr ⟨fun hP => ?_, rfl, MI_md ⟨r1, r2, r3, r4, r5, r6, r7, r8⟩⟩⟩
            have := hP.2.1
            rw [hlt] at this
            rw [i_le, i_n _ (by omega), ik_200] at h54
            omega
        · refine R_sipush (q := 40) (v := (-1000)) rfl rfl (by decide) ?_
          refine R_ireturn rfl rfl ?_
          first
            | exact ⟨FM_md, Or.inr ⟨(fun hP => absurd hP.1.1.1 (of_decide_eq_false (zb_eq0.mp h4))), rfl, MI_md h⟩⟩
            | exact ⟨FM_md, Or.inr ⟨(fun hP => absurd hP.1.1.2 (of_decide_eq_false (zb_eq0.mp h11))), rfl, MI_md h⟩⟩
            | exact ⟨FM_md, Or.inr ⟨(fun hP => of_decide_eq_false (zb_eq0.mp h22) (by have q1 := hP.1.2.1; rw [ikm_32, ik_32]; omega)), rfl, MI_md h⟩⟩
            | exact ⟨FM_md, Or.inr ⟨(fun hP => of_decide_eq_false (zb_eq0.mp h34) (by have q1 := hP.1.2.2; rw [ikm_32, ik_32]; omega)), rfl, MI_md h⟩⟩
end P56
