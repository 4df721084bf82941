/-! ===== MaskDesk$Cells: an object at a, its rows at a + 1 ===== -/
abbrev ro (g : Nat → Int32) : mm_E := .inl (0, 16, .inl g)
def CA (M : mm_M) (a : Nat) (f : Nat → Int32) : Prop := M.1 a = some (.inr (0, [.ref (a + 1)])) ∧ M.1 (a + 1) = some (ro f)
theorem CA_ne {M : mm_M} {a b : Nat} {f g : Nat → Int32} (ha : CA M a f) (hb : CA M b g) : a + 1 ≠ b := by
  intro h
  subst h
  have := ha.2.symm.trans hb.1
  cases this
theorem CA_fun {M : mm_M} {a : Nat} {f g : Nat → Int32} (ha : CA M a f) (hb : CA M a g) : f = g := by
  have := ha.2.symm.trans hb.2
  simpa using this
theorem CA_put {M : mm_M} {a : Nat} {f g : Nat → Int32} (ha : CA M a f) : CA (mm_put M (a + 1) (ro g)) a g := ⟨by rw [mm_pn (by omega)]; exact ha.1, mm_pe⟩
theorem CA_other {M : mm_M} {a b : Nat} {f g h : Nat → Int32} (ha : CA M a f) (hb : CA M b g) (hab : b ≠ a) : CA (mm_put M (a + 1) (ro h)) b g := ⟨by rw [mm_pn (fun q => CA_ne ha hb q.symm)]; exact hb.1, by rw [mm_pn (by omega)]; exact hb.2⟩
theorem CA_off {M : mm_M} {a b : Nat} {f : Nat → Int32} {c : mm_E} (ha : CA M a f) (h1 : b ≠ a) (h2 : b ≠ a + 1) : CA (mm_put M b c) a f := ⟨by rw [mm_pn (fun q => h1 q.symm)]; exact ha.1, by rw [mm_pn (fun q => h2 q.symm)]; exact ha.2⟩
/-- in a loop over the rows of a, the rows of b: as they are, or, if b is a, as they are from j on -/
theorem CA_loop {M : mm_M} {a b j : Nat} {f g n : Nat → Int32} (ha : CA M a f) (hb : CA M b g) : ∃ G, CA (mm_put M (a + 1) (ro (ifl n f j))) b G ∧ G j = g j := by
  by_cases h : b = a
  · subst h
    have := CA_fun ha hb
    subst this
    exact ⟨_, CA_put ha, ifl_ge (Nat.le_refl j)⟩
  · exact ⟨g, CA_other ha hb h, rfl⟩
def ifr (n f : Nat → Int32) (lo hi : Nat) : Nat → Int32 := fun i => if lo ≤ i ∧ i < hi then n i else f i
theorem ifr_0 {n f : Nat → Int32} {lo : Nat} : ifr n f lo lo = f := by funext i; exact if_neg (by omega)
theorem ifr_ge {n f : Nat → Int32} {i lo : Nat} : ifr n f lo i i = f i := if_neg (by omega)
theorem ifr_s {n f : Nat → Int32} {lo j : Nat} (h : lo ≤ j) : upd (ifr n f lo j) j (n j) = ifr n f lo (j + 1) := by
  funext i
  unfold upd ifr
  by_cases h1 : i = j
  · subst h1
    rw [if_pos rfl, if_pos ⟨h, by omega⟩]
  · rw [if_neg h1]
    by_cases h2 : lo ≤ i ∧ i < j
    · rw [if_pos h2, if_pos ⟨h2.1, by omega⟩]
    · rw [if_neg h2, if_neg (by omega)]
section P15
variable {S : mm_S} {d : Nat} {M : mm_M} {a b : Nat} {f g : Nat → Int32}
def rowv (f : Nat → Int32) (y : Int32) : Int32 := if 0 ≤ y.toInt ∧ y.toInt < 16 then f y.toNatClampNeg else nI 0
theorem c2 {y : Int32} (ha : CA M a f) : mm_R S d 2 0 (mm_en 2 [.ref a, .int y]) [] M (fun v M' => v = some (.int (rowv f y)) ∧ M' = M) := by
  obtain ⟨ha1, ha2⟩ := ha
  unfold rowv
  show mm_R S d 2 0 [some (.ref a), some (.int y)] [] M _
  refine R_iload_n (q := 1) rfl rfl rfl ?_
  refine R_if_lt (q := 4) (t := 19) rfl rfl rfl (fun h1 => ?_) (fun h1 => ?_)
  · refine R_iconst (q := 20) (v := nI 0) rfl rfl (by decide) ?_
    refine R_ireturn rfl rfl ?_
    refine ⟨congrArg some (congrArg Value.int ?_), rfl⟩
    first | exact (if_pos (by (try simp only [i_lt, i_le, i_eq, i_0, ik_0, ik_1, ik_2, ik_3, ik_4, ik_5, ik_6, ik_7, ik_8, ik_9, ik_10, ik_11, ik_12, ik_13, ik_14, ik_15, ik_16, ik_17, ik_18, ik_19, ik_20, ik_21, ik_22, ik_23, ik_24, ik_25, ik_26, ik_27, ik_28, ik_29, ik_30, ik_31, ik_32, ik_33, ik_34, ik_35, ik_36, ik_127, ik_128, ik_200, ik_201, ik_255, ik_256, ik_272, ik_289, ik_400, ik_512] at *) <;> omega)).symm | exact (if_neg (by (try simp only [i_lt, i_le, i_eq, i_0, ik_0, ik_1, ik_2, ik_3, ik_4, ik_5, ik_6, ik_7, ik_8, ik_9, ik_10, ik_11, ik_12, ik_13, ik_14, ik_15, ik_16, ik_17, ik_18, ik_19, ik_20, ik_21, ik_22, ik_23, ik_24, ik_25, ik_26, ik_27, ik_28, ik_29, ik_30, ik_31, ik_32, ik_33, ik_34, ik_35, ik_36, ik_127, ik_128, ik_200, ik_201, ik_255, ik_256, ik_272, ik_289, ik_400, ik_512] at *) <;> omega)).symm
  · refine R_iload_n (q := 5) rfl rfl rfl ?_
    refine R_bipush (q := 7) (v := nI 16) rfl rfl (by decide) ?_
    refine R_icmp_ge (q := 10) (t := 19) rfl rfl rfl (fun h7 => ?_) (fun h7 => ?_)
    · refine R_iconst (q := 20) (v := nI 0) rfl rfl (by decide) ?_
      refine R_ireturn rfl rfl ?_
      refine ⟨congrArg some (congrArg Value.int ?_), rfl⟩
      first | exact (if_pos (by (try simp only [i_lt, i_le, i_eq, i_0, ik_0, ik_1, ik_2, ik_3, ik_4, ik_5, ik_6, ik_7, ik_8, ik_9, ik_10, ik_11, ik_12, ik_13, ik_14, ik_15, ik_16, ik_17, ik_18, ik_19, ik_20, ik_21, ik_22, ik_23, ik_24, ik_25, ik_26, ik_27, ik_28, ik_29, ik_30, ik_31, ik_32, ik_33, ik_34, ik_35, ik_36, ik_127, ik_128, ik_200, ik_201, ik_255, ik_256, ik_272, ik_289, ik_400, ik_512] at *) <;> omega)).symm | exact (if_neg (by (try simp only [i_lt, i_le, i_eq, i_0, ik_0, ik_1, ik_2, ik_3, ik_4, ik_5, ik_6, ik_7, ik_8, ik_9, ik_10, ik_11, ik_12, ik_13, ik_14, ik_15, ik_16, ik_17, ik_18, ik_19, ik_20, ik_21, ik_22, ik_23, ik_24, ik_25, ik_26, ik_27, ik_28, ik_29, ik_30, ik_31, ik_32, ik_33, ik_34, ik_35, ik_36, ik_127, ik_128, ik_200, ik_201, ik_255, ik_256, ik_272, ik_289, ik_400, ik_512] at *) <;> omega)).symm
    · refine R_aload_n (q := 11) rfl rfl rfl ?_
      refine R_getf (q := 14) rfl rfl rfl (by assumption) rfl ?_
      refine R_iload_n (q := 15) rfl rfl rfl ?_
      refine R_iaload (q := 16) rfl rfl (by assumption) (by omega) (vp_in_iff.mpr (by (try simp only [i_lt, i_le, i_eq, i_0, ik_0, ik_1, ik_2, ik_3, ik_4, ik_5, ik_6, ik_7, ik_8, ik_9, ik_10, ik_11, ik_12, ik_13, ik_14, ik_15, ik_16, ik_17, ik_18, ik_19, ik_20, ik_21, ik_22, ik_23, ik_24, ik_25, ik_26, ik_27, ik_28, ik_29, ik_30, ik_31, ik_32, ik_33, ik_34, ik_35, ik_36, ik_127, ik_128, ik_200, ik_201, ik_255, ik_256, ik_272, ik_289, ik_400, ik_512] at *) <;> omega)) ?_
      refine R_goto (t := 20) rfl rfl ?_
      refine R_ireturn rfl rfl ?_
      refine ⟨congrArg some (congrArg Value.int ?_), rfl⟩
      first | exact (if_pos (by (try simp only [i_lt, i_le, i_eq, i_0, ik_0, ik_1, ik_2, ik_3, ik_4, ik_5, ik_6, ik_7, ik_8, ik_9, ik_10, ik_11, ik_12, ik_13, ik_14, ik_15, ik_16, ik_17, ik_18, ik_19, ik_20, ik_21, ik_22, ik_23, ik_24, ik_25, ik_26, ik_27, ik_28, ik_29, ik_30, ik_31, ik_32, ik_33, ik_34, ik_35, ik_36, ik_127, ik_128, ik_200, ik_201, ik_255, ik_256, ik_272, ik_289, ik_400, ik_512] at *) <;> omega)).symm | exact (if_neg (by (try simp only [i_lt, i_le, i_eq, i_0, ik_0, ik_1, ik_2, ik_3, ik_4, ik_5, ik_6, ik_7, ik_8, ik_9, ik_10, ik_11, ik_12, ik_13, ik_14, ik_15, ik_16, ik_17, ik_18, ik_19, ik_20, ik_21, ik_22, ik_23, ik_24, ik_25, ik_26, ik_27, ik_28, ik_29, ik_30, ik_31, ik_32, ik_33, ik_34, ik_35, ik_36, ik_127, ik_128, ik_200, ik_201, ik_255, ik_256, ik_272, ik_289, ik_400, ik_512] at *) <;> omega)).symm
theorem rowv_nI {f : Nat → Int32} {j : Nat} (h : j < 16) : rowv f (nI j) = f j := by
  unfold rowv
  rw [if_pos (by rw [i_n j (by omega)]; omega), cl_nI (by omega)]
theorem rowv_out {f : Nat → Int32} {y : Int32} (h : ¬ (0 ≤ y.toInt ∧ y.toInt < 16)) : rowv f y = nI 0 := if_neg h
theorem c4 {x y : Int32} (ha : CA M a f) : mm_R S (d + 1) 4 0 (mm_en 4 [.ref a, .int x, .int y]) [] M (fun v M' => v = some (.int (zb (decide (0 ≤ x.toInt ∧ x.toInt < 16) && bt (rowv f y) x.toNatClampNeg))) ∧ M' = M) := by
  have ha1 := ha.1
  show mm_R S (d + 1) 4 0 [some (.ref a), some (.int x), some (.int y)] [] M _
  refine R_iload_n (q := 1) rfl rfl rfl ?_
  refine R_if_lt (q := 4) (t := 26) rfl rfl rfl (fun h1 => ?_) (fun h1 => ?_)
  · refine R_iconst (q := 27) (v := nI 0) rfl rfl (by decide) ?_
    refine R_zreturn rfl rfl (by first | exact Or.inl rfl | exact Or.inr rfl | assumption) ?_
    refine ⟨congrArg some (congrArg Value.int ?_), rfl⟩
    first
      | (have hb := zb_eq0.mp h19
         rw [cl_nI (by omega), hb, Bool.and_false]; rfl)
      | (have hb := zb_ne0.mp h19
         rw [cl_nI (by omega), hb, decide_eq_true (by rw [i_n j (by omega)]; omega)]; rfl)
      | (rw [decide_eq_false (by (try simp only [i_lt, i_le, i_eq, i_0, ik_0, ik_1, ik_2, ik_3, ik_4, ik_5, ik_6, ik_7, ik_8, ik_9, ik_10, ik_11, ik_12, ik_13, ik_14, ik_15, ik_16, ik_17, ik_18, ik_19, ik_20, ik_21, ik_22, ik_23, ik_24, ik_25, ik_26, ik_27, ik_28, ik_29, ik_30, ik_31, ik_32, ik_33, ik_34, ik_35, ik_36, ik_127, ik_128, ik_200, ik_201, ik_255, ik_256, ik_272, ik_289, ik_400, ik_512] at *) <;> omega)]; rfl)
  · refine R_iload_n (q := 5) rfl rfl rfl ?_
    refine R_bipush (q := 7) (v := nI 16) rfl rfl (by decide) ?_
    refine R_icmp_ge (q := 10) (t := 26) rfl rfl rfl (fun h7 => ?_) (fun h7 => ?_)
    · refine R_iconst (q := 27) (v := nI 0) rfl rfl (by decide) ?_
      refine R_zreturn rfl rfl (by first | exact Or.inl rfl | exact Or.inr rfl | assumption) ?_
      refine ⟨congrArg some (congrArg Value.int ?_), rfl⟩
      first
        | (have hb := zb_eq0.mp h19
           rw [cl_nI (by omega), hb, Bool.and_false]; rfl)
        | (have hb := zb_ne0.mp h19
           rw [cl_nI (by omega), hb, decide_eq_true (by rw [i_n j (by omega)]; omega)]; rfl)
        | (rw [decide_eq_false (by (try simp only [i_lt, i_le, i_eq, i_0, ik_0, ik_1, ik_2, ik_3, ik_4, ik_5, ik_6, ik_7, ik_8, ik_9, ik_10, ik_11, ik_12, ik_13, ik_14, ik_15, ik_16, ik_17, ik_18, ik_19, ik_20, ik_21, ik_22, ik_23, ik_24, ik_25, ik_26, ik_27, ik_28, ik_29, ik_30, ik_31, ik_32, ik_33, ik_34, ik_35, ik_36, ik_127, ik_128, ik_200, ik_201, ik_255, ik_256, ik_272, ik_289, ik_400, ik_512] at *) <;> omega)]; rfl)
    · refine R_aload_n (q := 11) rfl rfl rfl ?_
      refine R_iload_n (q := 12) rfl rfl rfl ?_
      refine R_callv1 (q := 15) rfl rfl rfl rfl (by assumption) (Nat.le_of_ble_eq_true rfl) rfl ?_
      refine R_mono (c2 ha) (fun v12 M12 hr12 => ?_)
      obtain ⟨rfl, hm12⟩ := hr12
      rw [hm12]
      dsimp only [Option.toList, List.cons_append, List.nil_append]
      obtain ⟨j, hj, rfl⟩ : ∃ j : Nat, j < 16 ∧ x = nI j := i_ix 16 (by decide) (by (try simp only [i_lt, i_le, i_eq, i_0, ik_0, ik_1, ik_2, ik_3, ik_4, ik_5, ik_6, ik_7, ik_8, ik_9, ik_10, ik_11, ik_12, ik_13, ik_14, ik_15, ik_16, ik_17, ik_18, ik_19, ik_20, ik_21, ik_22, ik_23, ik_24, ik_25, ik_26, ik_27, ik_28, ik_29, ik_30, ik_31, ik_32, ik_33, ik_34, ik_35, ik_36, ik_127, ik_128, ik_200, ik_201, ik_255, ik_256, ik_272, ik_289, ik_400, ik_512] at *) <;> omega) (by (try simp only [i_lt, i_le, i_eq, i_0, ik_0, ik_1, ik_2, ik_3, ik_4, ik_5, ik_6, ik_7, ik_8, ik_9, ik_10, ik_11, ik_12, ik_13, ik_14, ik_15, ik_16, ik_17, ik_18, ik_19, ik_20, ik_21, ik_22, ik_23, ik_24, ik_25, ik_26, ik_27, ik_28, ik_29, ik_30, ik_31, ik_32, ik_33, ik_34, ik_35, ik_36, ik_127, ik_128, ik_200, ik_201, ik_255, ik_256, ik_272, ik_289, ik_400, ik_512] at *) <;> omega)
      refine R_iload_n (q := 16) rfl rfl rfl ?_
      refine R_calls2 (q := 19) rfl rfl rfl rfl (Nat.le_of_ble_eq_true rfl) rfl ?_
      refine R_mono (c142 (by omega)) (fun v16 M16 hr16 => ?_)
      obtain ⟨rfl, hm16⟩ := hr16
      rw [hm16]
      dsimp only [Option.toList, List.cons_append, List.nil_append]
      refine R_if_eq (q := 22) (t := 26) rfl rfl rfl (fun h19 => ?_) (fun h19 => ?_)
      · refine R_iconst (q := 27) (v := nI 0) rfl rfl (by decide) ?_
        refine R_zreturn rfl rfl (by first | exact Or.inl rfl | exact Or.inr rfl | assumption) ?_
        refine ⟨congrArg some (congrArg Value.int ?_), rfl⟩
        first
          | (have hb := zb_eq0.mp h19
             rw [cl_nI (by omega), hb, Bool.and_false]; rfl)
          | (have hb := zb_ne0.mp h19
             rw [cl_nI (by omega), hb, decide_eq_true (by rw [i_n j (by omega)]; omega)]; rfl)
          | (rw [decide_eq_false (by (try simp only [i_lt, i_le, i_eq, i_0, ik_0, ik_1, ik_2, ik_3, ik_4, ik_5, ik_6, ik_7, ik_8, ik_9, ik_10, ik_11, ik_12, ik_13, ik_14, ik_15, ik_16, ik_17, ik_18, ik_19, ik_20, ik_21, ik_22, ik_23, ik_24, ik_25, ik_26, ik_27, ik_28, ik_29, ik_30, ik_31, ik_32, ik_33, ik_34, ik_35, ik_36, ik_127, ik_128, ik_200, ik_201, ik_255, ik_256, ik_272, ik_289, ik_400, ik_512] at *) <;> omega)]; rfl)
      · refine R_iconst (q := 23) (v := nI 1) rfl rfl (by decide) ?_
        refine R_goto (t := 27) rfl rfl ?_
        refine R_zreturn rfl rfl (by first | exact Or.inl rfl | exact Or.inr rfl | assumption) ?_
        refine ⟨congrArg some (congrArg Value.int ?_), rfl⟩
        first
          | (have hb := zb_eq0.mp h19
             rw [cl_nI (by omega), hb, Bool.and_false]; rfl)
          | (have hb := zb_ne0.mp h19
             rw [cl_nI (by omega), hb, decide_eq_true (by rw [i_n j (by omega)]; omega)]; rfl)
          | (rw [decide_eq_false (by (try simp only [i_lt, i_le, i_eq, i_0, ik_0, ik_1, ik_2, ik_3, ik_4, ik_5, ik_6, ik_7, ik_8, ik_9, ik_10, ik_11, ik_12, ik_13, ik_14, ik_15, ik_16, ik_17, ik_18, ik_19, ik_20, ik_21, ik_22, ik_23, ik_24, ik_25, ik_26, ik_27, ik_28, ik_29, ik_30, ik_31, ik_32, ik_33, ik_34, ik_35, ik_36, ik_127, ik_128, ik_200, ik_201, ik_255, ik_256, ik_272, ik_289, ik_400, ik_512] at *) <;> omega)]; rfl)
theorem c6 {y v : Int32} (ha : CA M a f) : mm_R S d 6 0 (mm_en 6 [.ref a, .int y, .int v]) [] M (fun w M' => w = none ∧ M' = if 0 ≤ y.toInt ∧ y.toInt < 16 then mm_put M (a + 1) (ro (upd f y.toNatClampNeg (v &&& 65535))) else M) := by
  obtain ⟨ha1, ha2⟩ := ha
  show mm_R S d 6 0 [some (.ref a), some (.int y), some (.int v)] [] M _
  refine R_iload_n (q := 1) rfl rfl rfl ?_
  refine R_if_lt (q := 4) (t := 20) rfl rfl rfl (fun h1 => ?_) (fun h1 => ?_)
  · refine R_return rfl rfl ?_
    refine ⟨rfl, ?_⟩
    first | exact (if_pos (by (try simp only [i_lt, i_le, i_eq, i_0, ik_0, ik_1, ik_2, ik_3, ik_4, ik_5, ik_6, ik_7, ik_8, ik_9, ik_10, ik_11, ik_12, ik_13, ik_14, ik_15, ik_16, ik_17, ik_18, ik_19, ik_20, ik_21, ik_22, ik_23, ik_24, ik_25, ik_26, ik_27, ik_28, ik_29, ik_30, ik_31, ik_32, ik_33, ik_34, ik_35, ik_36, ik_127, ik_128, ik_200, ik_201, ik_255, ik_256, ik_272, ik_289, ik_400, ik_512] at *) <;> omega)).symm | exact (if_neg (by (try simp only [i_lt, i_le, i_eq, i_0, ik_0, ik_1, ik_2, ik_3, ik_4, ik_5, ik_6, ik_7, ik_8, ik_9, ik_10, ik_11, ik_12, ik_13, ik_14, ik_15, ik_16, ik_17, ik_18, ik_19, ik_20, ik_21, ik_22, ik_23, ik_24, ik_25, ik_26, ik_27, ik_28, ik_29, ik_30, ik_31, ik_32, ik_33, ik_34, ik_35, ik_36, ik_127, ik_128, ik_200, ik_201, ik_255, ik_256, ik_272, ik_289, ik_400, ik_512] at *) <;> omega)).symm
  · refine R_iload_n (q := 5) rfl rfl rfl ?_
    refine R_bipush (q := 7) (v := nI 16) rfl rfl (by decide) ?_
    refine R_icmp_ge (q := 10) (t := 20) rfl rfl rfl (fun h7 => ?_) (fun h7 => ?_)
    · refine R_return rfl rfl ?_
      refine ⟨rfl, ?_⟩
      first | exact (if_pos (by (try simp only [i_lt, i_le, i_eq, i_0, ik_0, ik_1, ik_2, ik_3, ik_4, ik_5, ik_6, ik_7, ik_8, ik_9, ik_10, ik_11, ik_12, ik_13, ik_14, ik_15, ik_16, ik_17, ik_18, ik_19, ik_20, ik_21, ik_22, ik_23, ik_24, ik_25, ik_26, ik_27, ik_28, ik_29, ik_30, ik_31, ik_32, ik_33, ik_34, ik_35, ik_36, ik_127, ik_128, ik_200, ik_201, ik_255, ik_256, ik_272, ik_289, ik_400, ik_512] at *) <;> omega)).symm | exact (if_neg (by (try simp only [i_lt, i_le, i_eq, i_0, ik_0, ik_1, ik_2, ik_3, ik_4, ik_5, ik_6, ik_7, ik_8, ik_9, ik_10, ik_11, ik_12, ik_13, ik_14, ik_15, ik_16, ik_17, ik_18, ik_19, ik_20, ik_21, ik_22, ik_23, ik_24, ik_25, ik_26, ik_27, ik_28, ik_29, ik_30, ik_31, ik_32, ik_33, ik_34, ik_35, ik_36, ik_127, ik_128, ik_200, ik_201, ik_255, ik_256, ik_272, ik_289, ik_400, ik_512] at *) <;> omega)).symm
    · refine R_aload_n (q := 11) rfl rfl rfl ?_
      refine R_getf (q := 14) rfl rfl rfl (by assumption) rfl ?_
      refine R_iload_n (q := 15) rfl rfl rfl ?_
      refine R_iload_n (q := 16) rfl rfl rfl ?_
      refine R_ldc (q := 18) (v := 65535) rfl rfl rfl ?_
      refine R_iand (q := 19) rfl rfl ?_
      refine R_iastore (q := 20) rfl rfl (by assumption) (vp_in_iff.mpr (by (try simp only [i_lt, i_le, i_eq, i_0, ik_0, ik_1, ik_2, ik_3, ik_4, ik_5, ik_6, ik_7, ik_8, ik_9, ik_10, ik_11, ik_12, ik_13, ik_14, ik_15, ik_16, ik_17, ik_18, ik_19, ik_20, ik_21, ik_22, ik_23, ik_24, ik_25, ik_26, ik_27, ik_28, ik_29, ik_30, ik_31, ik_32, ik_33, ik_34, ik_35, ik_36, ik_127, ik_128, ik_200, ik_201, ik_255, ik_256, ik_272, ik_289, ik_400, ik_512] at *) <;> omega)) ?_
      refine R_return rfl rfl ?_
      refine ⟨rfl, ?_⟩
      first | exact (if_pos (by (try simp only [i_lt, i_le, i_eq, i_0, ik_0, ik_1, ik_2, ik_3, ik_4, ik_5, ik_6, ik_7, ik_8, ik_9, ik_10, ik_11, ik_12, ik_13, ik_14, ik_15, ik_16, ik_17, ik_18, ik_19, ik_20, ik_21, ik_22, ik_23, ik_24, ik_25, ik_26, ik_27, ik_28, ik_29, ik_30, ik_31, ik_32, ik_33, ik_34, ik_35, ik_36, ik_127, ik_128, ik_200, ik_201, ik_255, ik_256, ik_272, ik_289, ik_400, ik_512] at *) <;> omega)).symm | exact (if_neg (by (try simp only [i_lt, i_le, i_eq, i_0, ik_0, ik_1, ik_2, ik_3, ik_4, ik_5, ik_6, ik_7, ik_8, ik_9, ik_10, ik_11, ik_12, ik_13, ik_14, ik_15, ik_16, ik_17, ik_18, ik_19, ik_20, ik_21, ik_22, ik_23, ik_24, ik_25, ik_26, ik_27, ik_28, ik_29, ik_30, ik_31, ik_32, ik_33, ik_34, ik_35, ik_36, ik_127, ik_128, ik_200, ik_201, ik_255, ik_256, ik_272, ik_289, ik_400, ik_512] at *) <;> omega)).symm
theorem c7  (ha : CA M a f) : mm_R S d 7 0 (mm_en 7 [.ref a]) [] M (fun v M' => v = none ∧ M' = mm_put M (a + 1) (ro (ifl (fun i => nI 0) f 16))) := by
  show mm_R S d 7 0 [some (.ref a), none] [] M _
  refine R_iconst (q := 1) (v := nI 0) rfl rfl (by decide) ?_
  refine R_istore_n (q := 2) rfl rfl (Nat.le_of_ble_eq_true rfl) rfl ?_
  dsimp only [List.set]
  refine R_atM (M' := mm_put M (a + 1) (ro (ifl (fun i => nI 0) f 0))) (by rw [ifl_0]; exact mm_pself ha.2) ?_
  refine lpN (fun j => mm_R S d 7 2 [some (.ref a), some (.int (nI j))] [] (mm_put M (a + 1) (ro (ifl (fun i => nI 0) f j))) (fun v M' => v = none ∧ M' = mm_put M (a + 1) (ro (ifl (fun i => nI 0) f 16)))) 16 (fun j hj ih => ?_) ?_ 0 (Nat.zero_le _)
  · have hj1 : (mm_put M (a + 1) (ro (ifl (fun i => nI 0) f j))).1 a = some (.inr (0, [.ref (a + 1)])) := (CA_put ha).1
    have hj2 : (mm_put M (a + 1) (ro (ifl (fun i => nI 0) f j))).1 (a + 1) = some (ro (ifl (fun i => nI 0) f j)) := mm_pe
    have hji := in_nI hj (by decide)
    refine R_iload_n (q := 3) rfl rfl rfl ?_
    refine R_bipush (q := 5) (v := nI 16) rfl rfl (by decide) ?_
    refine R_icmp_ge (q := 8) (t := 21) rfl rfl rfl (fun h5 => absurd h5 (nI_ge hj (by decide))) (fun h5 => ?_)
    refine R_aload_n (q := 9) rfl rfl rfl ?_
    refine R_getf (q := 12) rfl rfl rfl (by assumption) rfl ?_
    refine R_iload_n (q := 13) rfl rfl rfl ?_
    refine R_iconst (q := 14) (v := nI 0) rfl rfl (by decide) ?_
    refine R_iastore (q := 15) rfl rfl (by assumption) (by assumption) ?_
    refine R_iinc (q := 18) rfl rfl rfl (nI_i1 j) rfl ?_
    dsimp only [List.set]
    refine R_goto (t := 2) rfl rfl ?_
    refine R_atM ?_ ih
    rw [mm_pp, cl_nI (by omega)]
    try rw [ifl_ge (Nat.le_refl j)]
    exact (congrArg (fun z => mm_put M (a + 1) (ro z)) (ifl_s (n := (fun i => nI 0)))).symm
  · refine R_iload_n (q := 3) rfl rfl rfl ?_
    refine R_bipush (q := 5) (v := nI 16) rfl rfl (by decide) ?_
    refine R_icmp_ge (q := 8) (t := 21) rfl rfl rfl (fun h5 => ?_) (fun h5 => absurd (nI_le (Nat.le_refl _) (by decide)) h5)
    refine R_return rfl rfl ?_
    exact ⟨rfl, rfl⟩
theorem c8  (ha : CA M a f) (hb : CA M b g) : mm_R S d 8 0 (mm_en 8 [.ref a, .ref b]) [] M (fun v M' => v = none ∧ M' = mm_put M (a + 1) (ro (ifl (fun i => g i) f 16))) := by
  show mm_R S d 8 0 [some (.ref a), some (.ref b), none] [] M _
  refine R_iconst (q := 1) (v := nI 0) rfl rfl (by decide) ?_
  refine R_istore_n (q := 2) rfl rfl (Nat.le_of_ble_eq_true rfl) rfl ?_
  dsimp only [List.set]
  refine R_atM (M' := mm_put M (a + 1) (ro (ifl (fun i => g i) f 0))) (by rw [ifl_0]; exact mm_pself ha.2) ?_
  refine lpN (fun j => mm_R S d 8 2 [some (.ref a), some (.ref b), some (.int (nI j))] [] (mm_put M (a + 1) (ro (ifl (fun i => g i) f j))) (fun v M' => v = none ∧ M' = mm_put M (a + 1) (ro (ifl (fun i => g i) f 16)))) 16 (fun j hj ih => ?_) ?_ 0 (Nat.zero_le _)
  · have hj1 : (mm_put M (a + 1) (ro (ifl (fun i => g i) f j))).1 a = some (.inr (0, [.ref (a + 1)])) := (CA_put ha).1
    have hj2 : (mm_put M (a + 1) (ro (ifl (fun i => g i) f j))).1 (a + 1) = some (ro (ifl (fun i => g i) f j)) := mm_pe
    have hji := in_nI hj (by decide)
    obtain ⟨G, ⟨hg1, hg2⟩, hGj⟩ := CA_loop (n := (fun i => g i)) (j := j) ha hb
    refine R_iload_n (q := 3) rfl rfl rfl ?_
    refine R_bipush (q := 5) (v := nI 16) rfl rfl (by decide) ?_
    refine R_icmp_ge (q := 8) (t := 26) rfl rfl rfl (fun h5 => absurd h5 (nI_ge hj (by decide))) (fun h5 => ?_)
    refine R_aload_n (q := 9) rfl rfl rfl ?_
    refine R_getf (q := 12) rfl rfl rfl (by assumption) rfl ?_
    refine R_iload_n (q := 13) rfl rfl rfl ?_
    refine R_aload_n (q := 14) rfl rfl rfl ?_
    refine R_getf (q := 17) rfl rfl rfl (by assumption) rfl ?_
    refine R_iload_n (q := 18) rfl rfl rfl ?_
    refine R_iaload (q := 19) rfl rfl (by assumption) (by omega) (by assumption) ?_
    refine R_iastore (q := 20) rfl rfl (by assumption) (by assumption) ?_
    refine R_iinc (q := 23) rfl rfl rfl (nI_i1 j) rfl ?_
    dsimp only [List.set]
    refine R_goto (t := 2) rfl rfl ?_
    refine R_atM ?_ ih
    rw [mm_pp, cl_nI (by omega)]
    rw [hGj]
    try rw [ifl_ge (Nat.le_refl j)]
    exact (congrArg (fun z => mm_put M (a + 1) (ro z)) (ifl_s (n := (fun i => g i)))).symm
  · refine R_iload_n (q := 3) rfl rfl rfl ?_
    refine R_bipush (q := 5) (v := nI 16) rfl rfl (by decide) ?_
    refine R_icmp_ge (q := 8) (t := 26) rfl rfl rfl (fun h5 => ?_) (fun h5 => absurd (nI_le (Nat.le_refl _) (by decide)) h5)
    refine R_return rfl rfl ?_
    exact ⟨rfl, rfl⟩
theorem c9  (ha : CA M a f) (hb : CA M b g) : mm_R S d 9 0 (mm_en 9 [.ref a, .ref b]) [] M (fun v M' => v = none ∧ M' = mm_put M (a + 1) (ro (ifl (fun i => 65535 &&& (g i ^^^ (-1))) f 16))) := by
  show mm_R S d 9 0 [some (.ref a), some (.ref b), none] [] M _
  refine R_iconst (q := 1) (v := nI 0) rfl rfl (by decide) ?_
  refine R_istore_n (q := 2) rfl rfl (Nat.le_of_ble_eq_true rfl) rfl ?_
  dsimp only [List.set]
  refine R_atM (M' := mm_put M (a + 1) (ro (ifl (fun i => 65535 &&& (g i ^^^ (-1))) f 0))) (by rw [ifl_0]; exact mm_pself ha.2) ?_
  refine lpN (fun j => mm_R S d 9 2 [some (.ref a), some (.ref b), some (.int (nI j))] [] (mm_put M (a + 1) (ro (ifl (fun i => 65535 &&& (g i ^^^ (-1))) f j))) (fun v M' => v = none ∧ M' = mm_put M (a + 1) (ro (ifl (fun i => 65535 &&& (g i ^^^ (-1))) f 16)))) 16 (fun j hj ih => ?_) ?_ 0 (Nat.zero_le _)
  · have hj1 : (mm_put M (a + 1) (ro (ifl (fun i => 65535 &&& (g i ^^^ (-1))) f j))).1 a = some (.inr (0, [.ref (a + 1)])) := (CA_put ha).1
    have hj2 : (mm_put M (a + 1) (ro (ifl (fun i => 65535 &&& (g i ^^^ (-1))) f j))).1 (a + 1) = some (ro (ifl (fun i => 65535 &&& (g i ^^^ (-1))) f j)) := mm_pe
    have hji := in_nI hj (by decide)
    obtain ⟨G, ⟨hg1, hg2⟩, hGj⟩ := CA_loop (n := (fun i => 65535 &&& (g i ^^^ (-1)))) (j := j) ha hb
    refine R_iload_n (q := 3) rfl rfl rfl ?_
    refine R_bipush (q := 5) (v := nI 16) rfl rfl (by decide) ?_
    refine R_icmp_ge (q := 8) (t := 31) rfl rfl rfl (fun h5 => absurd h5 (nI_ge hj (by decide))) (fun h5 => ?_)
    refine R_aload_n (q := 9) rfl rfl rfl ?_
    refine R_getf (q := 12) rfl rfl rfl (by assumption) rfl ?_
    refine R_iload_n (q := 13) rfl rfl rfl ?_
    refine R_ldc (q := 15) (v := 65535) rfl rfl rfl ?_
    refine R_aload_n (q := 16) rfl rfl rfl ?_
    refine R_getf (q := 19) rfl rfl rfl (by assumption) rfl ?_
    refine R_iload_n (q := 20) rfl rfl rfl ?_
    refine R_iaload (q := 21) rfl rfl (by assumption) (by omega) (by assumption) ?_
    refine R_iconst (q := 22) (v := (-1)) rfl rfl (by decide) ?_
    refine R_ixor (q := 23) rfl rfl ?_
    refine R_iand (q := 24) rfl rfl ?_
    refine R_iastore (q := 25) rfl rfl (by assumption) (by assumption) ?_
    refine R_iinc (q := 28) rfl rfl rfl (nI_i1 j) rfl ?_
    dsimp only [List.set]
    refine R_goto (t := 2) rfl rfl ?_
    refine R_atM ?_ ih
    rw [mm_pp, cl_nI (by omega)]
    rw [hGj]
    try rw [ifl_ge (Nat.le_refl j)]
    exact (congrArg (fun z => mm_put M (a + 1) (ro z)) (ifl_s (n := (fun i => 65535 &&& (g i ^^^ (-1)))))).symm
  · refine R_iload_n (q := 3) rfl rfl rfl ?_
    refine R_bipush (q := 5) (v := nI 16) rfl rfl (by decide) ?_
    refine R_icmp_ge (q := 8) (t := 31) rfl rfl rfl (fun h5 => ?_) (fun h5 => absurd (nI_le (Nat.le_refl _) (by decide)) h5)
    refine R_return rfl rfl ?_
    exact ⟨rfl, rfl⟩
theorem c10  (ha : CA M a f) (hb : CA M b g) : mm_R S d 10 0 (mm_en 10 [.ref a, .ref b]) [] M (fun v M' => v = none ∧ M' = mm_put M (a + 1) (ro (ifl (fun i => f i ||| g i) f 16))) := by
  show mm_R S d 10 0 [some (.ref a), some (.ref b), none] [] M _
  refine R_iconst (q := 1) (v := nI 0) rfl rfl (by decide) ?_
  refine R_istore_n (q := 2) rfl rfl (Nat.le_of_ble_eq_true rfl) rfl ?_
  dsimp only [List.set]
  refine R_atM (M' := mm_put M (a + 1) (ro (ifl (fun i => f i ||| g i) f 0))) (by rw [ifl_0]; exact mm_pself ha.2) ?_
  refine lpN (fun j => mm_R S d 10 2 [some (.ref a), some (.ref b), some (.int (nI j))] [] (mm_put M (a + 1) (ro (ifl (fun i => f i ||| g i) f j))) (fun v M' => v = none ∧ M' = mm_put M (a + 1) (ro (ifl (fun i => f i ||| g i) f 16)))) 16 (fun j hj ih => ?_) ?_ 0 (Nat.zero_le _)
  · have hj1 : (mm_put M (a + 1) (ro (ifl (fun i => f i ||| g i) f j))).1 a = some (.inr (0, [.ref (a + 1)])) := (CA_put ha).1
    have hj2 : (mm_put M (a + 1) (ro (ifl (fun i => f i ||| g i) f j))).1 (a + 1) = some (ro (ifl (fun i => f i ||| g i) f j)) := mm_pe
    have hji := in_nI hj (by decide)
    obtain ⟨G, ⟨hg1, hg2⟩, hGj⟩ := CA_loop (n := (fun i => f i ||| g i)) (j := j) ha hb
    refine R_iload_n (q := 3) rfl rfl rfl ?_
    refine R_bipush (q := 5) (v := nI 16) rfl rfl (by decide) ?_
    refine R_icmp_ge (q := 8) (t := 29) rfl rfl rfl (fun h5 => absurd h5 (nI_ge hj (by decide))) (fun h5 => ?_)
    refine R_aload_n (q := 9) rfl rfl rfl ?_
    refine R_getf (q := 12) rfl rfl rfl (by assumption) rfl ?_
    refine R_iload_n (q := 13) rfl rfl rfl ?_
    refine R_dup2 (q := 14) rfl rfl ?_
    refine R_iaload (q := 15) rfl rfl (by assumption) (by omega) (by assumption) ?_
    refine R_aload_n (q := 16) rfl rfl rfl ?_
    refine R_getf (q := 19) rfl rfl rfl (by assumption) rfl ?_
    refine R_iload_n (q := 20) rfl rfl rfl ?_
    refine R_iaload (q := 21) rfl rfl (by assumption) (by omega) (by assumption) ?_
    refine R_ior (q := 22) rfl rfl ?_
    refine R_iastore (q := 23) rfl rfl (by assumption) (by assumption) ?_
    refine R_iinc (q := 26) rfl rfl rfl (nI_i1 j) rfl ?_
    dsimp only [List.set]
    refine R_goto (t := 2) rfl rfl ?_
    refine R_atM ?_ ih
    rw [mm_pp, cl_nI (by omega)]
    rw [hGj]
    try rw [ifl_ge (Nat.le_refl j)]
    exact (congrArg (fun z => mm_put M (a + 1) (ro z)) (ifl_s (n := (fun i => f i ||| g i)))).symm
  · refine R_iload_n (q := 3) rfl rfl rfl ?_
    refine R_bipush (q := 5) (v := nI 16) rfl rfl (by decide) ?_
    refine R_icmp_ge (q := 8) (t := 29) rfl rfl rfl (fun h5 => ?_) (fun h5 => absurd (nI_le (Nat.le_refl _) (by decide)) h5)
    refine R_return rfl rfl ?_
    exact ⟨rfl, rfl⟩
theorem c11  (ha : CA M a f) (hb : CA M b g) : mm_R S d 11 0 (mm_en 11 [.ref a, .ref b]) [] M (fun v M' => v = none ∧ M' = mm_put M (a + 1) (ro (ifl (fun i => f i &&& (g i ^^^ (-1))) f 16))) := by
  show mm_R S d 11 0 [some (.ref a), some (.ref b), none] [] M _
  refine R_iconst (q := 1) (v := nI 0) rfl rfl (by decide) ?_
  refine R_istore_n (q := 2) rfl rfl (Nat.le_of_ble_eq_true rfl) rfl ?_
  dsimp only [List.set]
  refine R_atM (M' := mm_put M (a + 1) (ro (ifl (fun i => f i &&& (g i ^^^ (-1))) f 0))) (by rw [ifl_0]; exact mm_pself ha.2) ?_
  refine lpN (fun j => mm_R S d 11 2 [some (.ref a), some (.ref b), some (.int (nI j))] [] (mm_put M (a + 1) (ro (ifl (fun i => f i &&& (g i ^^^ (-1))) f j))) (fun v M' => v = none ∧ M' = mm_put M (a + 1) (ro (ifl (fun i => f i &&& (g i ^^^ (-1))) f 16)))) 16 (fun j hj ih => ?_) ?_ 0 (Nat.zero_le _)
  · have hj1 : (mm_put M (a + 1) (ro (ifl (fun i => f i &&& (g i ^^^ (-1))) f j))).1 a = some (.inr (0, [.ref (a + 1)])) := (CA_put ha).1
    have hj2 : (mm_put M (a + 1) (ro (ifl (fun i => f i &&& (g i ^^^ (-1))) f j))).1 (a + 1) = some (ro (ifl (fun i => f i &&& (g i ^^^ (-1))) f j)) := mm_pe
    have hji := in_nI hj (by decide)
    obtain ⟨G, ⟨hg1, hg2⟩, hGj⟩ := CA_loop (n := (fun i => f i &&& (g i ^^^ (-1)))) (j := j) ha hb
    refine R_iload_n (q := 3) rfl rfl rfl ?_
    refine R_bipush (q := 5) (v := nI 16) rfl rfl (by decide) ?_
    refine R_icmp_ge (q := 8) (t := 31) rfl rfl rfl (fun h5 => absurd h5 (nI_ge hj (by decide))) (fun h5 => ?_)
    refine R_aload_n (q := 9) rfl rfl rfl ?_
    refine R_getf (q := 12) rfl rfl rfl (by assumption) rfl ?_
    refine R_iload_n (q := 13) rfl rfl rfl ?_
    refine R_dup2 (q := 14) rfl rfl ?_
    refine R_iaload (q := 15) rfl rfl (by assumption) (by omega) (by assumption) ?_
    refine R_aload_n (q := 16) rfl rfl rfl ?_
    refine R_getf (q := 19) rfl rfl rfl (by assumption) rfl ?_
    refine R_iload_n (q := 20) rfl rfl rfl ?_
    refine R_iaload (q := 21) rfl rfl (by assumption) (by omega) (by assumption) ?_
    refine R_iconst (q := 22) (v := (-1)) rfl rfl (by decide) ?_
    refine R_ixor (q := 23) rfl rfl ?_
    refine R_iand (q := 24) rfl rfl ?_
    refine R_iastore (q := 25) rfl rfl (by assumption) (by assumption) ?_
    refine R_iinc (q := 28) rfl rfl rfl (nI_i1 j) rfl ?_
    dsimp only [List.set]
    refine R_goto (t := 2) rfl rfl ?_
    refine R_atM ?_ ih
    rw [mm_pp, cl_nI (by omega)]
    rw [hGj]
    try rw [ifl_ge (Nat.le_refl j)]
    exact (congrArg (fun z => mm_put M (a + 1) (ro z)) (ifl_s (n := (fun i => f i &&& (g i ^^^ (-1)))))).symm
  · refine R_iload_n (q := 3) rfl rfl rfl ?_
    refine R_bipush (q := 5) (v := nI 16) rfl rfl (by decide) ?_
    refine R_icmp_ge (q := 8) (t := 31) rfl rfl rfl (fun h5 => ?_) (fun h5 => absurd (nI_le (Nat.le_refl _) (by decide)) h5)
    refine R_return rfl rfl ?_
    exact ⟨rfl, rfl⟩
end P15
