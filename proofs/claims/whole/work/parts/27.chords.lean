theorem nI_lt_of2 {a b : Nat} (h : ¬ nI b ≤ nI a) (ha : a < 2147483648) : a < b := nI_lt_of ha h
/-! ===== Chords: the object at 35, its rows at 36 .. 41 ===== -/
abbrev ia (n : Nat) (f : Nat → Int32) : mm_E := .inl (0, n, .inl f)
abbrev chh (n lv ch tr : Int32) : mm_E := .inr (1, [.ref 36, .ref 37, .ref 38, .ref 39, .ref 40, .ref 41, .int n, .int lv, .int ch, .int tr])
def chm (M : mm_M) (co ln st en to pa : Nat → Int32) (n lv ch tr : Int32) : mm_M := (fun k => if k = 35 then some (chh n lv ch tr) else if k = 36 then some (ia 17 co) else if k = 37 then some (ia 14 ln) else if k = 38 then some (ia 14 st) else if k = 39 then some (ia 14 en) else if k = 40 then some (ia 14 to) else if k = 41 then some (ia 14 pa) else M.1 k, M.2)
section P27a
variable {M : mm_M} {co ln st en to pa f : Nat → Int32} {n lv ch tr : Int32}
theorem ch_35 : (chm M co ln st en to pa n lv ch tr).1 35 = some (chh n lv ch tr) := rfl
theorem ch_36 : (chm M co ln st en to pa n lv ch tr).1 36 = some (ia 17 co) := rfl
theorem ch_37 : (chm M co ln st en to pa n lv ch tr).1 37 = some (ia 14 ln) := rfl
theorem ch_38 : (chm M co ln st en to pa n lv ch tr).1 38 = some (ia 14 st) := rfl
theorem ch_39 : (chm M co ln st en to pa n lv ch tr).1 39 = some (ia 14 en) := rfl
theorem ch_40 : (chm M co ln st en to pa n lv ch tr).1 40 = some (ia 14 to) := rfl
theorem ch_41 : (chm M co ln st en to pa n lv ch tr).1 41 = some (ia 14 pa) := rfl
theorem ch_p36 {z : Nat → Int32} : mm_put (chm M co ln st en to pa n lv ch tr) 36 (ia 17 z) = chm M z ln st en to pa n lv ch tr := by
  unfold mm_put mm_u chm
  congr 1
  funext k
  by_cases h : k = 36
  · subst h; rfl
  · simp [h]
theorem ch_p37 {z : Nat → Int32} : mm_put (chm M co ln st en to pa n lv ch tr) 37 (ia 14 z) = chm M co z st en to pa n lv ch tr := by
  unfold mm_put mm_u chm
  congr 1
  funext k
  by_cases h : k = 37
  · subst h; rfl
  · simp [h]
theorem ch_p38 {z : Nat → Int32} : mm_put (chm M co ln st en to pa n lv ch tr) 38 (ia 14 z) = chm M co ln z en to pa n lv ch tr := by
  unfold mm_put mm_u chm
  congr 1
  funext k
  by_cases h : k = 38
  · subst h; rfl
  · simp [h]
theorem ch_p39 {z : Nat → Int32} : mm_put (chm M co ln st en to pa n lv ch tr) 39 (ia 14 z) = chm M co ln st z to pa n lv ch tr := by
  unfold mm_put mm_u chm
  congr 1
  funext k
  by_cases h : k = 39
  · subst h; rfl
  · simp [h]
theorem ch_p40 {z : Nat → Int32} : mm_put (chm M co ln st en to pa n lv ch tr) 40 (ia 14 z) = chm M co ln st en z pa n lv ch tr := by
  unfold mm_put mm_u chm
  congr 1
  funext k
  by_cases h : k = 40
  · subst h; rfl
  · simp [h]
theorem ch_p41 {z : Nat → Int32} : mm_put (chm M co ln st en to pa n lv ch tr) 41 (ia 14 z) = chm M co ln st en to z n lv ch tr := by
  unfold mm_put mm_u chm
  congr 1
  funext k
  by_cases h : k = 41
  · subst h; rfl
  · simp [h]
theorem ch_p35 {n' lv' ch' tr' : Int32} : mm_put (chm M co ln st en to pa n lv ch tr) 35 (chh n' lv' ch' tr') = chm M co ln st en to pa n' lv' ch' tr' := by
  unfold mm_put mm_u chm
  congr 1
  funext k
  by_cases h : k = 35
  · subst h; rfl
  · simp [h]
theorem ch_off {k : Nat} (hk : k < 35 ∨ 41 < k) : (chm M co ln st en to pa n lv ch tr).1 k = M.1 k := by
  unfold chm
  dsimp only
  rw [if_neg (by omega), if_neg (by omega), if_neg (by omega), if_neg (by omega), if_neg (by omega), if_neg (by omega), if_neg (by omega)]
theorem ch_CA {a : Nat} (h : CA M a f) (ha : a + 1 < 35 ∨ 41 < a) : CA (chm M co ln st en to pa n lv ch tr) a f := ⟨by rw [ch_off (by omega)]; exact h.1, by rw [ch_off (by omega)]; exact h.2⟩
def CHF (M : mm_M) (co ln st en to pa : Nat → Int32) (n lv ch tr : Int32) : Prop := M.1 35 = some (chh n lv ch tr) ∧ M.1 36 = some (ia 17 co) ∧ M.1 37 = some (ia 14 ln) ∧ M.1 38 = some (ia 14 st) ∧ M.1 39 = some (ia 14 en) ∧ M.1 40 = some (ia 14 to) ∧ M.1 41 = some (ia 14 pa)
theorem ch_self (h : CHF M co ln st en to pa n lv ch tr) : chm M co ln st en to pa n lv ch tr = M := by
  obtain ⟨h1, h2, h3, h4, h5, h6, h7⟩ := h
  obtain ⟨m, z⟩ := M
  unfold chm
  congr 1
  funext k
  by_cases e1 : k = 35
  · subst e1; exact h1.symm
  · by_cases e2 : k = 36
    · subst e2; exact h2.symm
    · by_cases e3 : k = 37
      · subst e3; exact h3.symm
      · by_cases e4 : k = 38
        · subst e4; exact h4.symm
        · by_cases e5 : k = 39
          · subst e5; exact h5.symm
          · by_cases e6 : k = 40
            · subst e6; exact h6.symm
            · by_cases e7 : k = 41
              · subst e7; exact h7.symm
              · rw [if_neg e1, if_neg e2, if_neg e3, if_neg e4, if_neg e5, if_neg e6, if_neg e7]
end P27a
section P27
variable {S : mm_S} {d : Nat} {M : mm_M} {co ln st en to pa f : Nat → Int32} {ch tr lvI nI0 : Int32} {n lv a : Nat}
set_option maxRecDepth 8000 in
theorem c20 : mm_R S d 20 0 (mm_en 20 [.ref 35]) [] (chm M co ln st en to pa nI0 lvI ch tr) (fun v M' => v = some (.int nI0) ∧ M' = (chm M co ln st en to pa nI0 lvI ch tr)) := by
  show mm_R S d 20 0 [some (.ref 35)] [] (chm M co ln st en to pa nI0 lvI ch tr) _
  refine R_aload_n (q := 1) rfl rfl rfl ?_
  refine R_getf (q := 4) rfl rfl rfl ch_35 rfl ?_
  refine R_ireturn rfl rfl ?_
  exact ⟨rfl, rfl⟩
set_option maxRecDepth 8000 in
theorem c21 (hn : n < 1000) : mm_R S d 21 0 (mm_en 21 [.ref 35]) [] (chm M co ln st en to pa (nI n) (nI lv) ch tr) (fun v M' => v = some (.int (zb (decide (n ≤ 14)))) ∧ M' = (chm M co ln st en to pa (nI n) (nI lv) ch tr)) := by
  have hnn := i_n n (by omega)
  show mm_R S d 21 0 [some (.ref 35)] [] (chm M co ln st en to pa (nI n) (nI lv) ch tr) _
  refine R_aload_n (q := 1) rfl rfl rfl ?_
  refine R_getf (q := 4) rfl rfl rfl ch_35 rfl ?_
  refine R_bipush (q := 6) (v := nI 14) rfl rfl (by decide) ?_
  refine R_icmp_gt (q := 9) (t := 13) rfl rfl rfl (fun h6 => ?_) (fun h6 => ?_)
  · refine R_iconst (q := 14) (v := nI 0) rfl rfl (by decide) ?_
    refine R_zreturn rfl rfl (by first | exact Or.inl rfl | exact Or.inr rfl | assumption) ?_
    refine ⟨congrArg some (congrArg Value.int ?_), rfl⟩
    first | exact (zb_t (by (try simp only [i_lt, i_le, i_eq, i_0, ik_0, ik_1, ik_2, ik_3, ik_4, ik_5, ik_6, ik_7, ik_8, ik_9, ik_10, ik_11, ik_12, ik_13, ik_14, ik_15, ik_16, ik_17, ik_18, ik_19, ik_20, ik_21, ik_22, ik_23, ik_24, ik_25, ik_26, ik_27, ik_28, ik_29, ik_30, ik_31, ik_32, ik_33, ik_34, ik_35, ik_36, ik_127, ik_128, ik_200, ik_201, ik_255, ik_256, ik_272, ik_289, ik_400, ik_512] at *) <;> omega)).symm | exact (zb_f (by (try simp only [i_lt, i_le, i_eq, i_0, ik_0, ik_1, ik_2, ik_3, ik_4, ik_5, ik_6, ik_7, ik_8, ik_9, ik_10, ik_11, ik_12, ik_13, ik_14, ik_15, ik_16, ik_17, ik_18, ik_19, ik_20, ik_21, ik_22, ik_23, ik_24, ik_25, ik_26, ik_27, ik_28, ik_29, ik_30, ik_31, ik_32, ik_33, ik_34, ik_35, ik_36, ik_127, ik_128, ik_200, ik_201, ik_255, ik_256, ik_272, ik_289, ik_400, ik_512] at *) <;> omega)).symm
  · refine R_iconst (q := 10) (v := nI 1) rfl rfl (by decide) ?_
    refine R_goto (t := 14) rfl rfl ?_
    refine R_zreturn rfl rfl (by first | exact Or.inl rfl | exact Or.inr rfl | assumption) ?_
    refine ⟨congrArg some (congrArg Value.int ?_), rfl⟩
    first | exact (zb_t (by (try simp only [i_lt, i_le, i_eq, i_0, ik_0, ik_1, ik_2, ik_3, ik_4, ik_5, ik_6, ik_7, ik_8, ik_9, ik_10, ik_11, ik_12, ik_13, ik_14, ik_15, ik_16, ik_17, ik_18, ik_19, ik_20, ik_21, ik_22, ik_23, ik_24, ik_25, ik_26, ik_27, ik_28, ik_29, ik_30, ik_31, ik_32, ik_33, ik_34, ik_35, ik_36, ik_127, ik_128, ik_200, ik_201, ik_255, ik_256, ik_272, ik_289, ik_400, ik_512] at *) <;> omega)).symm | exact (zb_f (by (try simp only [i_lt, i_le, i_eq, i_0, ik_0, ik_1, ik_2, ik_3, ik_4, ik_5, ik_6, ik_7, ik_8, ik_9, ik_10, ik_11, ik_12, ik_13, ik_14, ik_15, ik_16, ik_17, ik_18, ik_19, ik_20, ik_21, ik_22, ik_23, ik_24, ik_25, ik_26, ik_27, ik_28, ik_29, ik_30, ik_31, ik_32, ik_33, ik_34, ik_35, ik_36, ik_127, ik_128, ik_200, ik_201, ik_255, ik_256, ik_272, ik_289, ik_400, ik_512] at *) <;> omega)).symm
set_option maxRecDepth 8000 in
theorem c24 {i : Nat} (hi : i < 32) : mm_R S (d + 1) 24 0 (mm_en 24 [.ref 35, .int (nI i)]) [] (chm M co ln st en to pa nI0 lvI ch tr) (fun v M' => v = some (.int (zb (bt ch i))) ∧ M' = (chm M co ln st en to pa nI0 lvI ch tr)) := by
  show mm_R S (d + 1) 24 0 [some (.ref 35), some (.int (nI i))] [] (chm M co ln st en to pa nI0 lvI ch tr) _
  refine R_aload_n (q := 1) rfl rfl rfl ?_
  refine R_getf (q := 4) rfl rfl rfl ch_35 rfl ?_
  refine R_iload_n (q := 5) rfl rfl rfl ?_
  refine R_calls2 (q := 8) rfl rfl rfl rfl (Nat.le_of_ble_eq_true rfl) rfl ?_
  refine R_mono (c142 hi) (fun v5 M5 hr5 => ?_)
  obtain ⟨rfl, hm5⟩ := hr5
  rw [hm5]
  dsimp only [Option.toList, List.cons_append, List.nil_append]
  refine R_zreturn rfl rfl (zb_01 _) ?_
  exact ⟨rfl, rfl⟩
set_option maxRecDepth 8000 in
theorem c25 {i : Nat} (hi : i < 1000) (hlv : lv < 1000) : mm_R S d 25 0 (mm_en 25 [.ref 35, .int (nI i)]) [] (chm M co ln st en to pa (nI n) (nI lv) ch tr) (fun v M' => v = some (.int (zb (decide (i < lv)))) ∧ M' = (chm M co ln st en to pa (nI n) (nI lv) ch tr)) := by
  have hii := i_n i (by omega)
  have hll := i_n lv (by omega)
  show mm_R S d 25 0 [some (.ref 35), some (.int (nI i))] [] (chm M co ln st en to pa (nI n) (nI lv) ch tr) _
  refine R_iload_n (q := 1) rfl rfl rfl ?_
  refine R_aload_n (q := 2) rfl rfl rfl ?_
  refine R_getf (q := 5) rfl rfl rfl ch_35 rfl ?_
  refine R_icmp_ge (q := 8) (t := 12) rfl rfl rfl (fun h5 => ?_) (fun h5 => ?_)
  · refine R_iconst (q := 13) (v := nI 0) rfl rfl (by decide) ?_
    refine R_zreturn rfl rfl (by first | exact Or.inl rfl | exact Or.inr rfl | assumption) ?_
    refine ⟨congrArg some (congrArg Value.int ?_), rfl⟩
    first | exact (zb_t (by (try simp only [i_lt, i_le, i_eq, i_0, ik_0, ik_1, ik_2, ik_3, ik_4, ik_5, ik_6, ik_7, ik_8, ik_9, ik_10, ik_11, ik_12, ik_13, ik_14, ik_15, ik_16, ik_17, ik_18, ik_19, ik_20, ik_21, ik_22, ik_23, ik_24, ik_25, ik_26, ik_27, ik_28, ik_29, ik_30, ik_31, ik_32, ik_33, ik_34, ik_35, ik_36, ik_127, ik_128, ik_200, ik_201, ik_255, ik_256, ik_272, ik_289, ik_400, ik_512] at *) <;> omega)).symm | exact (zb_f (by (try simp only [i_lt, i_le, i_eq, i_0, ik_0, ik_1, ik_2, ik_3, ik_4, ik_5, ik_6, ik_7, ik_8, ik_9, ik_10, ik_11, ik_12, ik_13, ik_14, ik_15, ik_16, ik_17, ik_18, ik_19, ik_20, ik_21, ik_22, ik_23, ik_24, ik_25, ik_26, ik_27, ik_28, ik_29, ik_30, ik_31, ik_32, ik_33, ik_34, ik_35, ik_36, ik_127, ik_128, ik_200, ik_201, ik_255, ik_256, ik_272, ik_289, ik_400, ik_512] at *) <;> omega)).symm
  · refine R_iconst (q := 9) (v := nI 1) rfl rfl (by decide) ?_
    refine R_goto (t := 13) rfl rfl ?_
    refine R_zreturn rfl rfl (by first | exact Or.inl rfl | exact Or.inr rfl | assumption) ?_
    refine ⟨congrArg some (congrArg Value.int ?_), rfl⟩
    first | exact (zb_t (by (try simp only [i_lt, i_le, i_eq, i_0, ik_0, ik_1, ik_2, ik_3, ik_4, ik_5, ik_6, ik_7, ik_8, ik_9, ik_10, ik_11, ik_12, ik_13, ik_14, ik_15, ik_16, ik_17, ik_18, ik_19, ik_20, ik_21, ik_22, ik_23, ik_24, ik_25, ik_26, ik_27, ik_28, ik_29, ik_30, ik_31, ik_32, ik_33, ik_34, ik_35, ik_36, ik_127, ik_128, ik_200, ik_201, ik_255, ik_256, ik_272, ik_289, ik_400, ik_512] at *) <;> omega)).symm | exact (zb_f (by (try simp only [i_lt, i_le, i_eq, i_0, ik_0, ik_1, ik_2, ik_3, ik_4, ik_5, ik_6, ik_7, ik_8, ik_9, ik_10, ik_11, ik_12, ik_13, ik_14, ik_15, ik_16, ik_17, ik_18, ik_19, ik_20, ik_21, ik_22, ik_23, ik_24, ik_25, ik_26, ik_27, ik_28, ik_29, ik_30, ik_31, ik_32, ik_33, ik_34, ik_35, ik_36, ik_127, ik_128, ik_200, ik_201, ik_255, ik_256, ik_272, ik_289, ik_400, ik_512] at *) <;> omega)).symm
set_option maxRecDepth 8000 in
theorem c26 {i : Nat} (hi : i < 14) : mm_R S d 26 0 (mm_en 26 [.ref 35, .int (nI i)]) [] (chm M co ln st en to pa nI0 lvI ch tr) (fun v M' => v = some (.int (ln i)) ∧ M' = (chm M co ln st en to pa nI0 lvI ch tr)) := by
  show mm_R S d 26 0 [some (.ref 35), some (.int (nI i))] [] (chm M co ln st en to pa nI0 lvI ch tr) _
  refine R_aload_n (q := 1) rfl rfl rfl ?_
  refine R_getf (q := 4) rfl rfl rfl ch_35 rfl ?_
  refine R_iload_n (q := 5) rfl rfl rfl ?_
  refine R_iaload (q := 6) rfl rfl ch_37 (by omega) (by first | assumption | exact in_nI (by omega) (by decide)) ?_
  rw [cl_nI (by omega)]
  refine R_ireturn rfl rfl ?_
  exact ⟨rfl, rfl⟩
set_option maxRecDepth 8000 in
theorem c27 {i : Nat} (hi : i < 14) : mm_R S d 27 0 (mm_en 27 [.ref 35, .int (nI i)]) [] (chm M co ln st en to pa nI0 lvI ch tr) (fun v M' => v = some (.int (st i)) ∧ M' = (chm M co ln st en to pa nI0 lvI ch tr)) := by
  show mm_R S d 27 0 [some (.ref 35), some (.int (nI i))] [] (chm M co ln st en to pa nI0 lvI ch tr) _
  refine R_aload_n (q := 1) rfl rfl rfl ?_
  refine R_getf (q := 4) rfl rfl rfl ch_35 rfl ?_
  refine R_iload_n (q := 5) rfl rfl rfl ?_
  refine R_iaload (q := 6) rfl rfl ch_38 (by omega) (by first | assumption | exact in_nI (by omega) (by decide)) ?_
  rw [cl_nI (by omega)]
  refine R_ireturn rfl rfl ?_
  exact ⟨rfl, rfl⟩
set_option maxRecDepth 8000 in
theorem c28 {i : Nat} (hi : i < 14) : mm_R S d 28 0 (mm_en 28 [.ref 35, .int (nI i)]) [] (chm M co ln st en to pa nI0 lvI ch tr) (fun v M' => v = some (.int (en i)) ∧ M' = (chm M co ln st en to pa nI0 lvI ch tr)) := by
  show mm_R S d 28 0 [some (.ref 35), some (.int (nI i))] [] (chm M co ln st en to pa nI0 lvI ch tr) _
  refine R_aload_n (q := 1) rfl rfl rfl ?_
  refine R_getf (q := 4) rfl rfl rfl ch_35 rfl ?_
  refine R_iload_n (q := 5) rfl rfl rfl ?_
  refine R_iaload (q := 6) rfl rfl ch_39 (by omega) (by first | assumption | exact in_nI (by omega) (by decide)) ?_
  rw [cl_nI (by omega)]
  refine R_ireturn rfl rfl ?_
  exact ⟨rfl, rfl⟩
def row17 (c : Nat → Int32) (y : Int32) : Int32 := if 0 ≤ y.toInt ∧ y.toInt ≤ 16 then c y.toNatClampNeg else nI 0
set_option maxRecDepth 8000 in
theorem c23 {y : Int32} : mm_R S d 23 0 (mm_en 23 [.ref 35, .int y]) [] (chm M co ln st en to pa nI0 lvI ch tr) (fun v M' => v = some (.int (row17 co y)) ∧ M' = (chm M co ln st en to pa nI0 lvI ch tr)) := by
  unfold row17
  show mm_R S d 23 0 [some (.ref 35), some (.int y)] [] (chm M co ln st en to pa nI0 lvI ch tr) _
  refine R_iload_n (q := 1) rfl rfl rfl ?_
  refine R_if_lt (q := 4) (t := 19) rfl rfl rfl (fun h1 => ?_) (fun h1 => ?_)
  · refine R_iconst (q := 20) (v := nI 0) rfl rfl (by decide) ?_
    refine R_ireturn rfl rfl ?_
    refine ⟨congrArg some (congrArg Value.int ?_), rfl⟩
    first | exact (if_pos (by (try simp only [i_lt, i_le, i_eq, i_0, ik_0, ik_1, ik_2, ik_3, ik_4, ik_5, ik_6, ik_7, ik_8, ik_9, ik_10, ik_11, ik_12, ik_13, ik_14, ik_15, ik_16, ik_17, ik_18, ik_19, ik_20, ik_21, ik_22, ik_23, ik_24, ik_25, ik_26, ik_27, ik_28, ik_29, ik_30, ik_31, ik_32, ik_33, ik_34, ik_35, ik_36, ik_127, ik_128, ik_200, ik_201, ik_255, ik_256, ik_272, ik_289, ik_400, ik_512] at *) <;> omega)).symm | exact (if_neg (by (try simp only [i_lt, i_le, i_eq, i_0, ik_0, ik_1, ik_2, ik_3, ik_4, ik_5, ik_6, ik_7, ik_8, ik_9, ik_10, ik_11, ik_12, ik_13, ik_14, ik_15, ik_16, ik_17, ik_18, ik_19, ik_20, ik_21, ik_22, ik_23, ik_24, ik_25, ik_26, ik_27, ik_28, ik_29, ik_30, ik_31, ik_32, ik_33, ik_34, ik_35, ik_36, ik_127, ik_128, ik_200, ik_201, ik_255, ik_256, ik_272, ik_289, ik_400, ik_512] at *) <;> omega)).symm
  · refine R_iload_n (q := 5) rfl rfl rfl ?_
    refine R_bipush (q := 7) (v := nI 16) rfl rfl (by decide) ?_
    refine R_icmp_gt (q := 10) (t := 19) rfl rfl rfl (fun h7 => ?_) (fun h7 => ?_)
    · refine R_iconst (q := 20) (v := nI 0) rfl rfl (by decide) ?_
      refine R_ireturn rfl rfl ?_
      refine ⟨congrArg some (congrArg Value.int ?_), rfl⟩
      first | exact (if_pos (by (try simp only [i_lt, i_le, i_eq, i_0, ik_0, ik_1, ik_2, ik_3, ik_4, ik_5, ik_6, ik_7, ik_8, ik_9, ik_10, ik_11, ik_12, ik_13, ik_14, ik_15, ik_16, ik_17, ik_18, ik_19, ik_20, ik_21, ik_22, ik_23, ik_24, ik_25, ik_26, ik_27, ik_28, ik_29, ik_30, ik_31, ik_32, ik_33, ik_34, ik_35, ik_36, ik_127, ik_128, ik_200, ik_201, ik_255, ik_256, ik_272, ik_289, ik_400, ik_512] at *) <;> omega)).symm | exact (if_neg (by (try simp only [i_lt, i_le, i_eq, i_0, ik_0, ik_1, ik_2, ik_3, ik_4, ik_5, ik_6, ik_7, ik_8, ik_9, ik_10, ik_11, ik_12, ik_13, ik_14, ik_15, ik_16, ik_17, ik_18, ik_19, ik_20, ik_21, ik_22, ik_23, ik_24, ik_25, ik_26, ik_27, ik_28, ik_29, ik_30, ik_31, ik_32, ik_33, ik_34, ik_35, ik_36, ik_127, ik_128, ik_200, ik_201, ik_255, ik_256, ik_272, ik_289, ik_400, ik_512] at *) <;> omega)).symm
    · refine R_aload_n (q := 11) rfl rfl rfl ?_
      refine R_getf (q := 14) rfl rfl rfl ch_35 rfl ?_
      refine R_iload_n (q := 15) rfl rfl rfl ?_
      refine R_iaload (q := 16) rfl rfl ch_36 (by omega) (vp_in_iff.mpr (by (try simp only [i_lt, i_le, i_eq, i_0, ik_0, ik_1, ik_2, ik_3, ik_4, ik_5, ik_6, ik_7, ik_8, ik_9, ik_10, ik_11, ik_12, ik_13, ik_14, ik_15, ik_16, ik_17, ik_18, ik_19, ik_20, ik_21, ik_22, ik_23, ik_24, ik_25, ik_26, ik_27, ik_28, ik_29, ik_30, ik_31, ik_32, ik_33, ik_34, ik_35, ik_36, ik_127, ik_128, ik_200, ik_201, ik_255, ik_256, ik_272, ik_289, ik_400, ik_512] at *) <;> omega)) ?_
      refine R_goto (t := 20) rfl rfl ?_
      refine R_ireturn rfl rfl ?_
      refine ⟨congrArg some (congrArg Value.int ?_), rfl⟩
      first | exact (if_pos (by (try simp only [i_lt, i_le, i_eq, i_0, ik_0, ik_1, ik_2, ik_3, ik_4, ik_5, ik_6, ik_7, ik_8, ik_9, ik_10, ik_11, ik_12, ik_13, ik_14, ik_15, ik_16, ik_17, ik_18, ik_19, ik_20, ik_21, ik_22, ik_23, ik_24, ik_25, ik_26, ik_27, ik_28, ik_29, ik_30, ik_31, ik_32, ik_33, ik_34, ik_35, ik_36, ik_127, ik_128, ik_200, ik_201, ik_255, ik_256, ik_272, ik_289, ik_400, ik_512] at *) <;> omega)).symm | exact (if_neg (by (try simp only [i_lt, i_le, i_eq, i_0, ik_0, ik_1, ik_2, ik_3, ik_4, ik_5, ik_6, ik_7, ik_8, ik_9, ik_10, ik_11, ik_12, ik_13, ik_14, ik_15, ik_16, ik_17, ik_18, ik_19, ik_20, ik_21, ik_22, ik_23, ik_24, ik_25, ik_26, ik_27, ik_28, ik_29, ik_30, ik_31, ik_32, ik_33, ik_34, ik_35, ik_36, ik_127, ik_128, ik_200, ik_201, ik_255, ik_256, ik_272, ik_289, ik_400, ik_512] at *) <;> omega)).symm
set_option maxRecDepth 8000 in
theorem c32 {x y : Nat} (hx : x < 32) (hy : y < 17) : mm_R S (d + 1) 32 0 (mm_en 32 [.ref 35, .int (nI x), .int (nI y)]) [] (chm M co ln st en to pa nI0 lvI ch tr) (fun v M' => v = some (.int (zb (bt (co y) x))) ∧ M' = (chm M co ln st en to pa nI0 lvI ch tr)) := by
  show mm_R S (d + 1) 32 0 [some (.ref 35), some (.int (nI x)), some (.int (nI y))] [] (chm M co ln st en to pa nI0 lvI ch tr) _
  refine R_aload_n (q := 1) rfl rfl rfl ?_
  refine R_getf (q := 4) rfl rfl rfl ch_35 rfl ?_
  refine R_iload_n (q := 5) rfl rfl rfl ?_
  refine R_iaload (q := 6) rfl rfl ch_36 (by omega) (by first | assumption | exact in_nI (by omega) (by decide)) ?_
  rw [cl_nI (by omega)]
  refine R_iload_n (q := 7) rfl rfl rfl ?_
  refine R_calls2 (q := 10) rfl rfl rfl rfl (Nat.le_of_ble_eq_true rfl) rfl ?_
  refine R_mono (c142 hx) (fun v7 M7 hr7 => ?_)
  obtain ⟨rfl, hm7⟩ := hr7
  rw [hm7]
  dsimp only [Option.toList, List.cons_append, List.nil_append]
  refine R_zreturn rfl rfl (zb_01 _) ?_
  exact ⟨rfl, rfl⟩
set_option maxRecDepth 8000 in
theorem c22 : mm_R S (d + 1) 22 0 (mm_en 22 [.ref 35]) [] (chm M co ln st en to pa nI0 lvI ch tr) (fun v M' => v = some (.int (cntv co 17)) ∧ M' = (chm M co ln st en to pa nI0 lvI ch tr)) := by
  show mm_R S (d + 1) 22 0 [some (.ref 35), none, none] [] (chm M co ln st en to pa nI0 lvI ch tr) _
  refine R_iconst (q := 1) (v := nI 0) rfl rfl (by decide) ?_
  refine R_istore_n (q := 2) rfl rfl (Nat.le_of_ble_eq_true rfl) rfl ?_
  dsimp only [List.set]
  refine R_iconst (q := 3) (v := nI 0) rfl rfl (by decide) ?_
  refine R_istore_n (q := 4) rfl rfl (Nat.le_of_ble_eq_true rfl) rfl ?_
  dsimp only [List.set]
  refine lpN (fun j => mm_R S (d + 1) 22 4 [some (.ref 35), some (.int (cntv co j)), some (.int (nI j))] [] (chm M co ln st en to pa nI0 lvI ch tr) (fun v M' => v = some (.int (cntv co 17)) ∧ M' = (chm M co ln st en to pa nI0 lvI ch tr))) 17 (fun j hj ih => ?_) ?_ 0 (Nat.zero_le _)
  · skip
    refine R_iload_n (q := 5) rfl rfl rfl ?_
    refine R_bipush (q := 7) (v := nI 16) rfl rfl (by decide) ?_
    refine R_icmp_gt (q := 10) (t := 28) rfl rfl rfl (fun h7 => absurd h7 (nI_nlt (by omega) (by omega))) (fun h7 => ?_)
    refine R_iload_n (q := 11) rfl rfl rfl ?_
    refine R_aload_n (q := 12) rfl rfl rfl ?_
    refine R_getf (q := 15) rfl rfl rfl ch_35 rfl ?_
    refine R_iload_n (q := 16) rfl rfl rfl ?_
    refine R_iaload (q := 17) rfl rfl ch_36 (by omega) (by first | assumption | exact in_nI (by omega) (by decide)) ?_
    rw [cl_nI (by omega)]
    refine R_calls1 (q := 20) rfl rfl rfl rfl (Nat.le_of_ble_eq_true rfl) rfl ?_
    refine R_mono (c201) (fun v17 M17 hr17 => ?_)
    obtain ⟨rfl, hm17⟩ := hr17
    rw [hm17]
    dsimp only [Option.toList, List.cons_append, List.nil_append]
    refine R_iadd (q := 21) rfl rfl ?_
    refine R_istore_n (q := 22) rfl rfl (Nat.le_of_ble_eq_true rfl) rfl ?_
    dsimp only [List.set]
    refine R_iinc (q := 25) rfl rfl rfl (nI_i1 j) rfl ?_
    dsimp only [List.set]
    refine R_goto (t := 4) rfl rfl ?_
    exact ih
  · refine R_iload_n (q := 5) rfl rfl rfl ?_
    refine R_bipush (q := 7) (v := nI 16) rfl rfl (by decide) ?_
    refine R_icmp_gt (q := 10) (t := 28) rfl rfl rfl (fun h7 => ?_) (fun h7 => absurd (nI_lt (by decide) (by decide)) h7)
    refine R_iload_n (q := 29) rfl rfl rfl ?_
    refine R_ireturn rfl rfl ?_
    exact ⟨rfl, rfl⟩
def cornv (f : Nat → Int32) (y : Nat) : Int32 := ((((rm f y) <<< (nI 1 &&& 31)) &&& rm f y) &&& (((rowv f (nI y)) <<< (nI 1 &&& 31)) ^^^ rowv f (nI y))) ||| (((((rm f y) <<< (nI 1 &&& 31)) ^^^ rm f y) &&& ((rowv f (nI y)) <<< (nI 1 &&& 31))) &&& rowv f (nI y))
set_option maxRecDepth 8000 in
theorem c29 (ha : CA M a f) (haa : a + 1 < 35 ∨ 41 < a) : mm_R S (d + 1) 29 0 (mm_en 29 [.ref 35, .ref a]) [] (chm M co ln st en to pa nI0 lvI ch tr) (fun v M' => v = none ∧ M' = (chm M (ifl (cornv f) co 17) ln st en to pa nI0 lvI ch tr)) := by
  show mm_R S (d + 1) 29 0 [some (.ref 35), some (.ref a), none, none, none, none, none] [] (chm M co ln st en to pa nI0 lvI ch tr) _
  refine R_iconst (q := 1) (v := nI 0) rfl rfl (by decide) ?_
  refine R_istore_n (q := 2) rfl rfl (Nat.le_of_ble_eq_true rfl) rfl ?_
  dsimp only [List.set]
  refine R_atM (M' := (chm M (ifl (cornv f) co 0) ln st en to pa nI0 lvI ch tr)) (by rw [ifl_0]) ?_
  refine lpN (fun j => ∀ t3 t4 t5 t6 : Option Value, mm_R S (d + 1) 29 2 [some (.ref 35), some (.ref a), some (.int (nI j)), t3, t4, t5, t6] [] (chm M (ifl (cornv f) co j) ln st en to pa nI0 lvI ch tr) (fun v M' => v = none ∧ M' = (chm M (ifl (cornv f) co 17) ln st en to pa nI0 lvI ch tr))) 17 (fun j hj ih t3 t4 t5 t6 => ?_) (fun t3 t4 t5 t6 => ?_) 0 (Nat.zero_le _) none none none none
  · have hca := ch_CA (co := ifl (cornv f) co j) (ln := ln) (st := st) (en := en) (to := to) (pa := pa) (n := nI0) (lv := lvI) (ch := ch) (tr := tr) ha haa
    have hca1 := hca.1
    refine R_iload_n (q := 3) rfl rfl rfl ?_
    refine R_bipush (q := 5) (v := nI 16) rfl rfl (by decide) ?_
    refine R_icmp_gt (q := 8) (t := 67) rfl rfl rfl (fun h5 => absurd h5 (nI_nlt (by omega) (by omega))) (fun h5 => ?_)
    refine R_aload_n (q := 9) rfl rfl rfl ?_
    refine R_iload_n (q := 10) rfl rfl rfl ?_
    refine R_iconst (q := 11) (v := nI 1) rfl rfl (by decide) ?_
    refine R_isub (q := 12) rfl rfl ?_
    refine R_callv1 (q := 15) rfl rfl rfl rfl hca1 (Nat.le_of_ble_eq_true rfl) rfl ?_
    refine R_mono (c2 hca) (fun v12 M12 hr12 => ?_)
    obtain ⟨rfl, hm12⟩ := hr12
    rw [hm12]
    dsimp only [Option.toList, List.cons_append, List.nil_append]
    refine R_istore_n (q := 16) rfl rfl (Nat.le_of_ble_eq_true rfl) rfl ?_
    dsimp only [List.set]
    refine R_iload_n (q := 17) rfl rfl rfl ?_
    refine R_iconst (q := 18) (v := nI 1) rfl rfl (by decide) ?_
    refine R_ishl (q := 19) rfl rfl ?_
    refine R_istore (q := 21) rfl rfl (Nat.le_of_ble_eq_true rfl) rfl ?_
    dsimp only [List.set]
    refine R_aload_n (q := 22) rfl rfl rfl ?_
    refine R_iload_n (q := 23) rfl rfl rfl ?_
    refine R_callv1 (q := 26) rfl rfl rfl rfl hca1 (Nat.le_of_ble_eq_true rfl) rfl ?_
    refine R_mono (c2 hca) (fun v23 M23 hr23 => ?_)
    obtain ⟨rfl, hm23⟩ := hr23
    rw [hm23]
    dsimp only [Option.toList, List.cons_append, List.nil_append]
    refine R_istore (q := 28) rfl rfl (Nat.le_of_ble_eq_true rfl) rfl ?_
    dsimp only [List.set]
    refine R_iload (q := 30) rfl rfl rfl ?_
    refine R_iconst (q := 31) (v := nI 1) rfl rfl (by decide) ?_
    refine R_ishl (q := 32) rfl rfl ?_
    refine R_istore (q := 34) rfl rfl (Nat.le_of_ble_eq_true rfl) rfl ?_
    dsimp only [List.set]
    refine R_aload_n (q := 35) rfl rfl rfl ?_
    refine R_getf (q := 38) rfl rfl rfl ch_35 rfl ?_
    refine R_iload_n (q := 39) rfl rfl rfl ?_
    refine R_iload (q := 41) rfl rfl rfl ?_
    refine R_iload_n (q := 42) rfl rfl rfl ?_
    refine R_iand (q := 43) rfl rfl ?_
    refine R_iload (q := 45) rfl rfl rfl ?_
    refine R_iload (q := 47) rfl rfl rfl ?_
    refine R_ixor (q := 48) rfl rfl ?_
    refine R_iand (q := 49) rfl rfl ?_
    refine R_iload (q := 51) rfl rfl rfl ?_
    refine R_iload_n (q := 52) rfl rfl rfl ?_
    refine R_ixor (q := 53) rfl rfl ?_
    refine R_iload (q := 55) rfl rfl rfl ?_
    refine R_iand (q := 56) rfl rfl ?_
    refine R_iload (q := 58) rfl rfl rfl ?_
    refine R_iand (q := 59) rfl rfl ?_
    refine R_ior (q := 60) rfl rfl ?_
    refine R_iastore (q := 61) rfl rfl ch_36 (by first | assumption | exact in_nI (by omega) (by decide)) ?_
    refine R_iinc (q := 64) rfl rfl rfl (nI_i1 j) rfl ?_
    dsimp only [List.set]
    refine R_goto (t := 2) rfl rfl ?_
    refine R_atM ?_ (ih _ _ _ _)
    rw [ch_p36, cl_nI (by omega)]
    exact (congrArg (fun z => chm M z ln st en to pa nI0 lvI ch tr) (ifl_s (n := cornv f))).symm
  · refine R_iload_n (q := 3) rfl rfl rfl ?_
    refine R_bipush (q := 5) (v := nI 16) rfl rfl (by decide) ?_
    refine R_icmp_gt (q := 8) (t := 67) rfl rfl rfl (fun h5 => ?_) (fun h5 => absurd (nI_lt (by decide) (by decide)) h5)
    refine R_return rfl rfl ?_
    exact ⟨rfl, rfl⟩
/-- the chords that are kept: how many, their lines, starts, ends -/
abbrev KS : Type := Nat × (Nat → Int32) × (Nat → Int32) × (Nat → Int32)
def kp (s : KS) (x y z : Int32) : KS := if s.1 < 14 then (s.1 + 1, upd s.2.1 s.1 x, upd s.2.2.1 s.1 y, upd s.2.2.2 s.1 z) else (s.1 + 1, s.2.1, s.2.2.1, s.2.2.2)
def chk (M : mm_M) (co to pa : Nat → Int32) (lv ch tr : Int32) (s : KS) : mm_M := chm M co s.2.1 s.2.2.1 s.2.2.2 to pa (nI s.1) lv ch tr
set_option maxRecDepth 8000 in
theorem c33 {x y z : Int32} {s : KS} (hs : s.1 < 1000) : mm_R S d 33 0 (mm_en 33 [.ref 35, .int x, .int y, .int z]) [] (chk M co to pa lvI ch tr s) (fun v M' => v = none ∧ M' = chk M co to pa lvI ch tr (kp s x y z)) := by
  obtain ⟨n, ln, st, en⟩ := s
  have hs : n < 1000 := hs
  unfold kp chk
  dsimp only
  show mm_R S d 33 0 [some (.ref 35), some (.int x), some (.int y), some (.int z)] [] (chm M co ln st en to pa (nI n) lvI ch tr) _
  by_cases hn : n < 14
  · rw [if_pos hn]
    refine R_aload_n (q := 1) rfl rfl rfl ?_
    refine R_getf (q := 4) rfl rfl rfl ch_35 rfl ?_
    refine R_bipush (q := 6) (v := nI 14) rfl rfl (by decide) ?_
    refine R_icmp_ge (q := 9) (t := 39) rfl rfl rfl (fun h6 => absurd h6 (nI_ge hn (by decide))) (fun h6 => ?_)
    refine R_aload_n (q := 10) rfl rfl rfl ?_
    refine R_getf (q := 13) rfl rfl rfl ch_35 rfl ?_
    refine R_aload_n (q := 14) rfl rfl rfl ?_
    refine R_getf (q := 17) rfl rfl rfl ch_35 rfl ?_
    refine R_iload_n (q := 18) rfl rfl rfl ?_
    refine R_iastore (q := 19) rfl rfl ch_37 (by first | assumption | exact in_nI (by omega) (by decide)) ?_
    rw [cl_nI (by omega), ch_p37]
    refine R_aload_n (q := 20) rfl rfl rfl ?_
    refine R_getf (q := 23) rfl rfl rfl ch_35 rfl ?_
    refine R_aload_n (q := 24) rfl rfl rfl ?_
    refine R_getf (q := 27) rfl rfl rfl ch_35 rfl ?_
    refine R_iload_n (q := 28) rfl rfl rfl ?_
    refine R_iastore (q := 29) rfl rfl ch_38 (by first | assumption | exact in_nI (by omega) (by decide)) ?_
    rw [cl_nI (by omega), ch_p38]
    refine R_aload_n (q := 30) rfl rfl rfl ?_
    refine R_getf (q := 33) rfl rfl rfl ch_35 rfl ?_
    refine R_aload_n (q := 34) rfl rfl rfl ?_
    refine R_getf (q := 37) rfl rfl rfl ch_35 rfl ?_
    refine R_iload_n (q := 38) rfl rfl rfl ?_
    refine R_iastore (q := 39) rfl rfl ch_39 (by first | assumption | exact in_nI (by omega) (by decide)) ?_
    rw [cl_nI (by omega), ch_p39]
    refine R_aload_n (q := 40) rfl rfl rfl ?_
    first | refine R_dupa (q := 41) rfl rfl ?_ | refine R_dupi (q := 41) rfl rfl ?_
    refine R_getf (q := 44) rfl rfl rfl ch_35 rfl ?_
    refine R_iconst (q := 45) (v := nI 1) rfl rfl (by decide) ?_
    refine R_iadd (q := 46) rfl rfl ?_
    rw [nI_add]
    refine R_putf (q := 49) rfl rfl rfl ch_35 (Nat.le_of_ble_eq_true rfl) rfl (fun hf => absurd hf (by decide)) rfl ?_
    dsimp only [List.set]
    refine R_return rfl rfl ?_
    exact ⟨rfl, ch_p35⟩
  · rw [if_neg hn]
    refine R_aload_n (q := 1) rfl rfl rfl ?_
    refine R_getf (q := 4) rfl rfl rfl ch_35 rfl ?_
    refine R_bipush (q := 6) (v := nI 14) rfl rfl (by decide) ?_
    refine R_icmp_ge (q := 9) (t := 39) rfl rfl rfl (fun h6 => ?_) (fun h6 => absurd (nI_le (by omega) (by omega)) h6)
    refine R_aload_n (q := 40) rfl rfl rfl ?_
    first | refine R_dupa (q := 41) rfl rfl ?_ | refine R_dupi (q := 41) rfl rfl ?_
    refine R_getf (q := 44) rfl rfl rfl ch_35 rfl ?_
    refine R_iconst (q := 45) (v := nI 1) rfl rfl (by decide) ?_
    refine R_iadd (q := 46) rfl rfl ?_
    rw [nI_add]
    refine R_putf (q := 49) rfl rfl rfl ch_35 (Nat.le_of_ble_eq_true rfl) rfl (fun hf => absurd hf (by decide)) rfl ?_
    dsimp only [List.set]
    refine R_return rfl rfl ?_
    exact ⟨rfl, ch_p35⟩
def lvx (inn : Int32) (C : Nat → Bool) (y : Nat) : Nat → Nat → KS → KS
  | 0, _, s => s
  | k + 1, x, s => lvx inn C y k (x + 1) (if C x = true ∧ x < re (bt inn) (16 - x) x ∧ C (re (bt inn) (16 - x) x) = true then kp s (nI y) (nI x) (nI (re (bt inn) (16 - x) x)) else s)
def lvy (I : Nat → Int32) (C : Nat → Nat → Bool) : Nat → Nat → KS → KS
  | 0, _, s => s
  | k + 1, y, s => lvy I C k (y + 1) (lvx (I y) (C y) y 15 1 s)
theorem kp_le {s : KS} {x y z : Int32} {b : Nat} (h : s.1 ≤ b) : (kp s x y z).1 ≤ b + 1 := by
  unfold kp
  split <;> exact Nat.add_le_add_right h 1
theorem lvx_le {inn : Int32} {C : Nat → Bool} {y : Nat} : ∀ k x s b, s.1 ≤ b → (lvx inn C y k x s).1 ≤ b + k := by
  intro k
  induction k with
  | zero => intro x s b h; exact h
  | succ k ih =>
    intro x s b h
    have := ih (x + 1) (if C x = true ∧ x < re (bt inn) (16 - x) x ∧ C (re (bt inn) (16 - x) x) = true then kp s (nI y) (nI x) (nI (re (bt inn) (16 - x) x)) else s) (b + 1) (by
      split
      · exact kp_le h
      · omega)
    show (lvx inn C y k (x + 1) _).1 ≤ _
    omega
theorem lvy_le {I : Nat → Int32} {C : Nat → Nat → Bool} : ∀ k y s b, s.1 ≤ b → (lvy I C k y s).1 ≤ b + 15 * k := by
  intro k
  induction k with
  | zero => intro y s b h; exact h
  | succ k ih =>
    intro y s b h
    have := ih (y + 1) (lvx (I y) (C y) y 15 1 s) (b + 15) (lvx_le 15 1 s b h)
    show (lvy I C k (y + 1) _).1 ≤ _
    omega
set_option maxRecDepth 8000 in
theorem c30_loop (ha : CA M a f) (haa : a + 1 < 35 ∨ 41 < a) : ∀ (k y : Nat) (s : KS) (t3 t4 t5 : Option Value), y + k = 16 → 1 ≤ y → s.1 ≤ 900 - 15 * k → mm_R S (d + 2) 30 2 [some (.ref 35), some (.ref a), some (.int (nI y)), t3, t4, t5] [] (chk M co to pa lvI ch tr s) (fun v M' => v = none ∧ M' = (chk M co to pa lvI ch tr (lvy (fun y => rm f y &&& rowv f (nI y)) (fun y x => bt (co y) x) k y s))) := by
  intro k
  induction k with
  | zero =>
    intro y s t3 t4 t5 hy hy1 hs
    refine R_iload_n (q := 3) rfl rfl rfl ?_
    refine R_bipush (q := 5) (v := nI 16) rfl rfl (by decide) ?_
    refine R_icmp_ge (q := 8) (t := 93) rfl rfl rfl (fun h5 => ?_) (fun h5 => absurd (nI_le (by omega) (by omega)) h5)
    refine R_return rfl rfl ?_
    exact ⟨rfl, rfl⟩
  | succ k ih =>
    intro y s t3 t4 t5 hy hy1 hs
    have hin : ∀ (j x : Nat) (s : KS) (t5 : Option Value), x + j = 16 → 1 ≤ x → s.1 ≤ 900 - 15 * k - j → mm_R S (d + 2) 30 25 [some (.ref 35), some (.ref a), some (.int (nI y)), some (.int (rm f y &&& rowv f (nI y))), some (.int (nI x)), t5] [] (chk M co to pa lvI ch tr s) (fun v M' => v = none ∧ M' = (chk M co to pa lvI ch tr (lvy (fun y => rm f y &&& rowv f (nI y)) (fun y x => bt (co y) x) k (y + 1) (lvx (rm f y &&& rowv f (nI y)) (fun x => bt (co y) (x)) y j x s)))) := by
      intro j
      induction j with
      | zero =>
        intro x s t5 hx hx1 hs
        refine R_iload (q := 27) rfl rfl rfl ?_
        refine R_bipush (q := 29) (v := nI 16) rfl rfl (by decide) ?_
        refine R_icmp_ge (q := 32) (t := 87) rfl rfl rfl (fun h29 => ?_) (fun h29 => absurd (nI_le (by omega) (by omega)) h29)
        refine R_iinc (q := 90) rfl rfl rfl (nI_i1 y) rfl ?_
        dsimp only [List.set]
        refine R_goto (t := 2) rfl rfl ?_
        exact ih (y + 1) s _ _ _ (by omega) (by omega) (by omega)
      | succ j ihj =>
        intro x s t5 hx hx1 hs
        have hre := re_ge (bt (rm f y &&& rowv f (nI y))) (16 - x) x
        have hk := ihj (x + 1) (if (bt (co y) (x)) = true ∧ x < re (bt (rm f y &&& rowv f (nI y))) (16 - x) x ∧ (bt (co y) (re (bt (rm f y &&& rowv f (nI y))) (16 - x) x)) = true then kp s (nI y) (nI x) (nI (re (bt (rm f y &&& rowv f (nI y))) (16 - x) x)) else s)
        have hst : lvx (rm f y &&& rowv f (nI y)) (fun x => bt (co y) (x)) y (j + 1) x s = lvx (rm f y &&& rowv f (nI y)) (fun x => bt (co y) (x)) y j (x + 1) (if (bt (co y) (x)) = true ∧ x < re (bt (rm f y &&& rowv f (nI y))) (16 - x) x ∧ (bt (co y) (re (bt (rm f y &&& rowv f (nI y))) (16 - x) x)) = true then kp s (nI y) (nI x) (nI (re (bt (rm f y &&& rowv f (nI y))) (16 - x) x)) else s) := rfl
        refine R_iload (q := 27) rfl rfl rfl ?_
        refine R_bipush (q := 29) (v := nI 16) rfl rfl (by decide) ?_
        refine R_icmp_ge (q := 32) (t := 87) rfl rfl rfl (fun h29 => absurd h29 (nI_ge (by omega) (by omega))) (fun h29 => ?_)
        refine R_aload_n (q := 33) rfl rfl rfl ?_
        refine R_iload (q := 35) rfl rfl rfl ?_
        refine R_iload_n (q := 36) rfl rfl rfl ?_
        refine R_callv2 (q := 39) rfl rfl rfl rfl rfl (Nat.le_of_ble_eq_true rfl) rfl ?_
        refine R_mono (c32 (by omega) (by omega)) (fun v36 M36 hr36 => ?_)
        obtain ⟨rfl, hm36⟩ := hr36
        rw [hm36]
        dsimp only [Option.toList, List.cons_append, List.nil_append]
        refine R_if_eq (q := 42) (t := 51) rfl rfl rfl (fun h39 => ?_) (fun h39 => ?_)
        · refine R_iload (q := 53) rfl rfl rfl ?_
          refine R_istore (q := 55) rfl rfl (Nat.le_of_ble_eq_true rfl) rfl ?_
          dsimp only [List.set]
          refine R_iload (q := 57) rfl rfl rfl ?_
          refine R_iload (q := 59) rfl rfl rfl ?_
          refine R_icmp_le (q := 62) (t := 81) rfl rfl rfl (fun h59 => ?_) (fun h59 => ?_)
          · refine R_iinc (q := 84) rfl rfl rfl (nI_i1 x) rfl ?_
            dsimp only [List.set]
            refine R_goto (t := 25) rfl rfl ?_
            first
              | exact absurd (nI_le (Nat.le_refl x) (by omega)) h59
              | (have q1 := zb_ne0.mp h39
                 have q2 := nI_lt_of2 h59 (by omega)
                 have q3 := zb_ne0.mp h69
                 rw [hst, if_pos ⟨q1, q2, q3⟩]
                 rw [if_pos ⟨q1, q2, q3⟩] at hk
                 exact hk _ (by omega) (by omega) (by have := kp_le (s := s) (x := nI y) (y := nI x) (z := nI (re (bt (rm f y &&& rowv f (nI y))) (16 - x) x)) (b := 900 - 15 * k - (j + 1)) (by omega); omega))
              | (have hno : ¬ ((bt (co y) (x)) = true ∧ x < re (bt (rm f y &&& rowv f (nI y))) (16 - x) x ∧ (bt (co y) (re (bt (rm f y &&& rowv f (nI y))) (16 - x) x)) = true) := by
                   rintro ⟨q1, q2, q3⟩
                   first
                     | (rw [zb_eq0.mp h39] at q1; cases q1; done)
                     | (rw [zb_eq0.mp h69] at q3; cases q3; done)
                     | exact absurd h59 (nI_ge q2 (by omega))
                 rw [hst, if_neg hno]
                 rw [if_neg hno] at hk
                 exact hk _ (by omega) (by omega) (by omega))
          · refine R_aload_n (q := 63) rfl rfl rfl ?_
            refine R_iload (q := 65) rfl rfl rfl ?_
            refine R_iload_n (q := 66) rfl rfl rfl ?_
            refine R_callv2 (q := 69) rfl rfl rfl rfl rfl (Nat.le_of_ble_eq_true rfl) rfl ?_
            refine R_mono (c32 (by omega) (by omega)) (fun v66 M66 hr66 => ?_)
            obtain ⟨rfl, hm66⟩ := hr66
            rw [hm66]
            dsimp only [Option.toList, List.cons_append, List.nil_append]
            refine R_if_eq (q := 72) (t := 81) rfl rfl rfl (fun h69 => ?_) (fun h69 => ?_)
            · refine R_iinc (q := 84) rfl rfl rfl (nI_i1 x) rfl ?_
              dsimp only [List.set]
              refine R_goto (t := 25) rfl rfl ?_
              first
                | exact absurd (nI_le (Nat.le_refl x) (by omega)) h59
                | (have q1 := zb_ne0.mp h39
                   have q2 := nI_lt_of2 h59 (by omega)
                   have q3 := zb_ne0.mp h69
                   rw [hst, if_pos ⟨q1, q2, q3⟩]
                   rw [if_pos ⟨q1, q2, q3⟩] at hk
                   exact hk _ (by omega) (by omega) (by have := kp_le (s := s) (x := nI y) (y := nI x) (z := nI (re (bt (rm f y &&& rowv f (nI y))) (16 - x) x)) (b := 900 - 15 * k - (j + 1)) (by omega); omega))
                | (have hno : ¬ ((bt (co y) (x)) = true ∧ x < re (bt (rm f y &&& rowv f (nI y))) (16 - x) x ∧ (bt (co y) (re (bt (rm f y &&& rowv f (nI y))) (16 - x) x)) = true) := by
                     rintro ⟨q1, q2, q3⟩
                     first
                       | (rw [zb_eq0.mp h39] at q1; cases q1; done)
                       | (rw [zb_eq0.mp h69] at q3; cases q3; done)
                       | exact absurd h59 (nI_ge q2 (by omega))
                   rw [hst, if_neg hno]
                   rw [if_neg hno] at hk
                   exact hk _ (by omega) (by omega) (by omega))
            · refine R_aload_n (q := 73) rfl rfl rfl ?_
              refine R_iload_n (q := 74) rfl rfl rfl ?_
              refine R_iload (q := 76) rfl rfl rfl ?_
              refine R_iload (q := 78) rfl rfl rfl ?_
              refine R_callv3 (q := 81) rfl rfl rfl rfl rfl (Nat.le_of_ble_eq_true rfl) rfl ?_
              refine R_mono (c33 (by omega)) (fun v78 M78 hr78 => ?_)
              obtain ⟨rfl, hm78⟩ := hr78
              rw [hm78]
              dsimp only [Option.toList, List.cons_append, List.nil_append]
              refine R_iinc (q := 84) rfl rfl rfl (nI_i1 x) rfl ?_
              dsimp only [List.set]
              refine R_goto (t := 25) rfl rfl ?_
              first
                | exact absurd (nI_le (Nat.le_refl x) (by omega)) h59
                | (have q1 := zb_ne0.mp h39
                   have q2 := nI_lt_of2 h59 (by omega)
                   have q3 := zb_ne0.mp h69
                   rw [hst, if_pos ⟨q1, q2, q3⟩]
                   rw [if_pos ⟨q1, q2, q3⟩] at hk
                   exact hk _ (by omega) (by omega) (by have := kp_le (s := s) (x := nI y) (y := nI x) (z := nI (re (bt (rm f y &&& rowv f (nI y))) (16 - x) x)) (b := 900 - 15 * k - (j + 1)) (by omega); omega))
                | (have hno : ¬ ((bt (co y) (x)) = true ∧ x < re (bt (rm f y &&& rowv f (nI y))) (16 - x) x ∧ (bt (co y) (re (bt (rm f y &&& rowv f (nI y))) (16 - x) x)) = true) := by
                     rintro ⟨q1, q2, q3⟩
                     first
                       | (rw [zb_eq0.mp h39] at q1; cases q1; done)
                       | (rw [zb_eq0.mp h69] at q3; cases q3; done)
                       | exact absurd h59 (nI_ge q2 (by omega))
                   rw [hst, if_neg hno]
                   rw [if_neg hno] at hk
                   exact hk _ (by omega) (by omega) (by omega))
        · refine R_iload_n (q := 43) rfl rfl rfl ?_
          refine R_iload (q := 45) rfl rfl rfl ?_
          refine R_calls2 (q := 48) rfl rfl rfl rfl (Nat.le_of_ble_eq_true rfl) rfl ?_
          refine R_mono (c144 (by omega)) (fun v45 M45 hr45 => ?_)
          obtain ⟨rfl, hm45⟩ := hr45
          rw [hm45]
          dsimp only [Option.toList, List.cons_append, List.nil_append]
          refine R_goto (t := 53) rfl rfl ?_
          refine R_istore (q := 55) rfl rfl (Nat.le_of_ble_eq_true rfl) rfl ?_
          dsimp only [List.set]
          refine R_iload (q := 57) rfl rfl rfl ?_
          refine R_iload (q := 59) rfl rfl rfl ?_
          refine R_icmp_le (q := 62) (t := 81) rfl rfl rfl (fun h59 => ?_) (fun h59 => ?_)
          · refine R_iinc (q := 84) rfl rfl rfl (nI_i1 x) rfl ?_
            dsimp only [List.set]
            refine R_goto (t := 25) rfl rfl ?_
            first
              | exact absurd (nI_le (Nat.le_refl x) (by omega)) h59
              | (have q1 := zb_ne0.mp h39
                 have q2 := nI_lt_of2 h59 (by omega)
                 have q3 := zb_ne0.mp h69
                 rw [hst, if_pos ⟨q1, q2, q3⟩]
                 rw [if_pos ⟨q1, q2, q3⟩] at hk
                 exact hk _ (by omega) (by omega) (by have := kp_le (s := s) (x := nI y) (y := nI x) (z := nI (re (bt (rm f y &&& rowv f (nI y))) (16 - x) x)) (b := 900 - 15 * k - (j + 1)) (by omega); omega))
              | (have hno : ¬ ((bt (co y) (x)) = true ∧ x < re (bt (rm f y &&& rowv f (nI y))) (16 - x) x ∧ (bt (co y) (re (bt (rm f y &&& rowv f (nI y))) (16 - x) x)) = true) := by
                   rintro ⟨q1, q2, q3⟩
                   first
                     | (rw [zb_eq0.mp h39] at q1; cases q1; done)
                     | (rw [zb_eq0.mp h69] at q3; cases q3; done)
                     | exact absurd h59 (nI_ge q2 (by omega))
                 rw [hst, if_neg hno]
                 rw [if_neg hno] at hk
                 exact hk _ (by omega) (by omega) (by omega))
          · refine R_aload_n (q := 63) rfl rfl rfl ?_
            refine R_iload (q := 65) rfl rfl rfl ?_
            refine R_iload_n (q := 66) rfl rfl rfl ?_
            refine R_callv2 (q := 69) rfl rfl rfl rfl rfl (Nat.le_of_ble_eq_true rfl) rfl ?_
            refine R_mono (c32 (by omega) (by omega)) (fun v66 M66 hr66 => ?_)
            obtain ⟨rfl, hm66⟩ := hr66
            rw [hm66]
            dsimp only [Option.toList, List.cons_append, List.nil_append]
            refine R_if_eq (q := 72) (t := 81) rfl rfl rfl (fun h69 => ?_) (fun h69 => ?_)
            · refine R_iinc (q := 84) rfl rfl rfl (nI_i1 x) rfl ?_
              dsimp only [List.set]
              refine R_goto (t := 25) rfl rfl ?_
              first
                | exact absurd (nI_le (Nat.le_refl x) (by omega)) h59
                | (have q1 := zb_ne0.mp h39
                   have q2 := nI_lt_of2 h59 (by omega)
                   have q3 := zb_ne0.mp h69
                   rw [hst, if_pos ⟨q1, q2, q3⟩]
                   rw [if_pos ⟨q1, q2, q3⟩] at hk
                   exact hk _ (by omega) (by omega) (by have := kp_le (s := s) (x := nI y) (y := nI x) (z := nI (re (bt (rm f y &&& rowv f (nI y))) (16 - x) x)) (b := 900 - 15 * k - (j + 1)) (by omega); omega))
                | (have hno : ¬ ((bt (co y) (x)) = true ∧ x < re (bt (rm f y &&& rowv f (nI y))) (16 - x) x ∧ (bt (co y) (re (bt (rm f y &&& rowv f (nI y))) (16 - x) x)) = true) := by
                     rintro ⟨q1, q2, q3⟩
                     first
                       | (rw [zb_eq0.mp h39] at q1; cases q1; done)
                       | (rw [zb_eq0.mp h69] at q3; cases q3; done)
                       | exact absurd h59 (nI_ge q2 (by omega))
                   rw [hst, if_neg hno]
                   rw [if_neg hno] at hk
                   exact hk _ (by omega) (by omega) (by omega))
            · refine R_aload_n (q := 73) rfl rfl rfl ?_
              refine R_iload_n (q := 74) rfl rfl rfl ?_
              refine R_iload (q := 76) rfl rfl rfl ?_
              refine R_iload (q := 78) rfl rfl rfl ?_
              refine R_callv3 (q := 81) rfl rfl rfl rfl rfl (Nat.le_of_ble_eq_true rfl) rfl ?_
              refine R_mono (c33 (by omega)) (fun v78 M78 hr78 => ?_)
              obtain ⟨rfl, hm78⟩ := hr78
              rw [hm78]
              dsimp only [Option.toList, List.cons_append, List.nil_append]
              refine R_iinc (q := 84) rfl rfl rfl (nI_i1 x) rfl ?_
              dsimp only [List.set]
              refine R_goto (t := 25) rfl rfl ?_
              first
                | exact absurd (nI_le (Nat.le_refl x) (by omega)) h59
                | (have q1 := zb_ne0.mp h39
                   have q2 := nI_lt_of2 h59 (by omega)
                   have q3 := zb_ne0.mp h69
                   rw [hst, if_pos ⟨q1, q2, q3⟩]
                   rw [if_pos ⟨q1, q2, q3⟩] at hk
                   exact hk _ (by omega) (by omega) (by have := kp_le (s := s) (x := nI y) (y := nI x) (z := nI (re (bt (rm f y &&& rowv f (nI y))) (16 - x) x)) (b := 900 - 15 * k - (j + 1)) (by omega); omega))
                | (have hno : ¬ ((bt (co y) (x)) = true ∧ x < re (bt (rm f y &&& rowv f (nI y))) (16 - x) x ∧ (bt (co y) (re (bt (rm f y &&& rowv f (nI y))) (16 - x) x)) = true) := by
                     rintro ⟨q1, q2, q3⟩
                     first
                       | (rw [zb_eq0.mp h39] at q1; cases q1; done)
                       | (rw [zb_eq0.mp h69] at q3; cases q3; done)
                       | exact absurd h59 (nI_ge q2 (by omega))
                   rw [hst, if_neg hno]
                   rw [if_neg hno] at hk
                   exact hk _ (by omega) (by omega) (by omega))
    refine R_iload_n (q := 3) rfl rfl rfl ?_
    refine R_bipush (q := 5) (v := nI 16) rfl rfl (by decide) ?_
    refine R_icmp_ge (q := 8) (t := 93) rfl rfl rfl (fun h5 => absurd h5 (nI_ge (by omega) (by omega))) (fun h5 => ?_)
    refine R_aload_n (q := 9) rfl rfl rfl ?_
    refine R_iload_n (q := 10) rfl rfl rfl ?_
    refine R_iconst (q := 11) (v := nI 1) rfl rfl (by decide) ?_
    refine R_isub (q := 12) rfl rfl ?_
    refine R_callv1 (q := 15) rfl rfl rfl rfl (ch_CA ha haa).1 (Nat.le_of_ble_eq_true rfl) rfl ?_
    refine R_mono (c2 (ch_CA ha haa)) (fun v12 M12 hr12 => ?_)
    obtain ⟨rfl, hm12⟩ := hr12
    rw [hm12]
    dsimp only [Option.toList, List.cons_append, List.nil_append]
    refine R_aload_n (q := 16) rfl rfl rfl ?_
    refine R_iload_n (q := 17) rfl rfl rfl ?_
    refine R_callv1 (q := 20) rfl rfl rfl rfl (ch_CA ha haa).1 (Nat.le_of_ble_eq_true rfl) rfl ?_
    refine R_mono (c2 (ch_CA ha haa)) (fun v17 M17 hr17 => ?_)
    obtain ⟨rfl, hm17⟩ := hr17
    rw [hm17]
    dsimp only [Option.toList, List.cons_append, List.nil_append]
    refine R_iand (q := 21) rfl rfl ?_
    refine R_istore_n (q := 22) rfl rfl (Nat.le_of_ble_eq_true rfl) rfl ?_
    dsimp only [List.set]
    refine R_iconst (q := 23) (v := nI 1) rfl rfl (by decide) ?_
    refine R_istore (q := 25) rfl rfl (Nat.le_of_ble_eq_true rfl) rfl ?_
    dsimp only [List.set]
    exact hin 15 1 s _ rfl (by omega) (by omega)
set_option maxRecDepth 8000 in
theorem c30 {s : KS} (ha : CA M a f) (haa : a + 1 < 35 ∨ 41 < a) (hs : s.1 ≤ 600) : mm_R S (d + 2) 30 0 (mm_en 30 [.ref 35, .ref a]) [] (chk M co to pa lvI ch tr s) (fun v M' => v = none ∧ M' = (chk M co to pa lvI ch tr (lvy (fun y => rm f y &&& rowv f (nI y)) (fun y x => bt (co y) x) 15 1 s))) := by
  show mm_R S (d + 2) 30 0 [some (.ref 35), some (.ref a), none, none, none, none] [] (chk M co to pa lvI ch tr s) _
  refine R_iconst (q := 1) (v := nI 1) rfl rfl (by decide) ?_
  refine R_istore_n (q := 2) rfl rfl (Nat.le_of_ble_eq_true rfl) rfl ?_
  dsimp only [List.set]
  exact c30_loop ha haa 15 1 s _ _ _ rfl (by omega) (by omega)
set_option maxRecDepth 8000 in
theorem c31_loop (ha : CA M a f) (haa : a + 1 < 35 ∨ 41 < a) : ∀ (k y : Nat) (s : KS) (t3 t4 t5 : Option Value), y + k = 16 → 1 ≤ y → s.1 ≤ 900 - 15 * k → mm_R S (d + 2) 31 2 [some (.ref 35), some (.ref a), some (.int (nI y)), t3, t4, t5] [] (chk M co to pa lvI ch tr s) (fun v M' => v = none ∧ M' = (chk M co to pa lvI ch tr (lvy (fun y => colv f (y - 1) 16 &&& colv f y 16) (fun x y => bt (co y) x) k y s))) := by
  intro k
  induction k with
  | zero =>
    intro y s t3 t4 t5 hy hy1 hs
    refine R_iload_n (q := 3) rfl rfl rfl ?_
    refine R_bipush (q := 5) (v := nI 16) rfl rfl (by decide) ?_
    refine R_icmp_ge (q := 8) (t := 93) rfl rfl rfl (fun h5 => ?_) (fun h5 => absurd (nI_le (by omega) (by omega)) h5)
    refine R_return rfl rfl ?_
    exact ⟨rfl, rfl⟩
  | succ k ih =>
    intro y s t3 t4 t5 hy hy1 hs
    have hin : ∀ (j x : Nat) (s : KS) (t5 : Option Value), x + j = 16 → 1 ≤ x → s.1 ≤ 900 - 15 * k - j → mm_R S (d + 2) 31 25 [some (.ref 35), some (.ref a), some (.int (nI y)), some (.int (colv f (y - 1) 16 &&& colv f y 16)), some (.int (nI x)), t5] [] (chk M co to pa lvI ch tr s) (fun v M' => v = none ∧ M' = (chk M co to pa lvI ch tr (lvy (fun y => colv f (y - 1) 16 &&& colv f y 16) (fun x y => bt (co y) x) k (y + 1) (lvx (colv f (y - 1) 16 &&& colv f y 16) (fun x => bt (co (x)) y) y j x s)))) := by
      intro j
      induction j with
      | zero =>
        intro x s t5 hx hx1 hs
        refine R_iload (q := 27) rfl rfl rfl ?_
        refine R_bipush (q := 29) (v := nI 16) rfl rfl (by decide) ?_
        refine R_icmp_ge (q := 32) (t := 87) rfl rfl rfl (fun h29 => ?_) (fun h29 => absurd (nI_le (by omega) (by omega)) h29)
        refine R_iinc (q := 90) rfl rfl rfl (nI_i1 y) rfl ?_
        dsimp only [List.set]
        refine R_goto (t := 2) rfl rfl ?_
        exact ih (y + 1) s _ _ _ (by omega) (by omega) (by omega)
      | succ j ihj =>
        intro x s t5 hx hx1 hs
        have hre := re_ge (bt (colv f (y - 1) 16 &&& colv f y 16)) (16 - x) x
        have hk := ihj (x + 1) (if (bt (co (x)) y) = true ∧ x < re (bt (colv f (y - 1) 16 &&& colv f y 16)) (16 - x) x ∧ (bt (co (re (bt (colv f (y - 1) 16 &&& colv f y 16)) (16 - x) x)) y) = true then kp s (nI y) (nI x) (nI (re (bt (colv f (y - 1) 16 &&& colv f y 16)) (16 - x) x)) else s)
        have hst : lvx (colv f (y - 1) 16 &&& colv f y 16) (fun x => bt (co (x)) y) y (j + 1) x s = lvx (colv f (y - 1) 16 &&& colv f y 16) (fun x => bt (co (x)) y) y j (x + 1) (if (bt (co (x)) y) = true ∧ x < re (bt (colv f (y - 1) 16 &&& colv f y 16)) (16 - x) x ∧ (bt (co (re (bt (colv f (y - 1) 16 &&& colv f y 16)) (16 - x) x)) y) = true then kp s (nI y) (nI x) (nI (re (bt (colv f (y - 1) 16 &&& colv f y 16)) (16 - x) x)) else s) := rfl
        refine R_iload (q := 27) rfl rfl rfl ?_
        refine R_bipush (q := 29) (v := nI 16) rfl rfl (by decide) ?_
        refine R_icmp_ge (q := 32) (t := 87) rfl rfl rfl (fun h29 => absurd h29 (nI_ge (by omega) (by omega))) (fun h29 => ?_)
        refine R_aload_n (q := 33) rfl rfl rfl ?_
        refine R_iload_n (q := 34) rfl rfl rfl ?_
        refine R_iload (q := 36) rfl rfl rfl ?_
        refine R_callv2 (q := 39) rfl rfl rfl rfl rfl (Nat.le_of_ble_eq_true rfl) rfl ?_
        refine R_mono (c32 (by omega) (by omega)) (fun v36 M36 hr36 => ?_)
        obtain ⟨rfl, hm36⟩ := hr36
        rw [hm36]
        dsimp only [Option.toList, List.cons_append, List.nil_append]
        refine R_if_eq (q := 42) (t := 51) rfl rfl rfl (fun h39 => ?_) (fun h39 => ?_)
        · refine R_iload (q := 53) rfl rfl rfl ?_
          refine R_istore (q := 55) rfl rfl (Nat.le_of_ble_eq_true rfl) rfl ?_
          dsimp only [List.set]
          refine R_iload (q := 57) rfl rfl rfl ?_
          refine R_iload (q := 59) rfl rfl rfl ?_
          refine R_icmp_le (q := 62) (t := 81) rfl rfl rfl (fun h59 => ?_) (fun h59 => ?_)
          · refine R_iinc (q := 84) rfl rfl rfl (nI_i1 x) rfl ?_
            dsimp only [List.set]
            refine R_goto (t := 25) rfl rfl ?_
            first
              | exact absurd (nI_le (Nat.le_refl x) (by omega)) h59
              | (have q1 := zb_ne0.mp h39
                 have q2 := nI_lt_of2 h59 (by omega)
                 have q3 := zb_ne0.mp h69
                 rw [hst, if_pos ⟨q1, q2, q3⟩]
                 rw [if_pos ⟨q1, q2, q3⟩] at hk
                 exact hk _ (by omega) (by omega) (by have := kp_le (s := s) (x := nI y) (y := nI x) (z := nI (re (bt (colv f (y - 1) 16 &&& colv f y 16)) (16 - x) x)) (b := 900 - 15 * k - (j + 1)) (by omega); omega))
              | (have hno : ¬ ((bt (co (x)) y) = true ∧ x < re (bt (colv f (y - 1) 16 &&& colv f y 16)) (16 - x) x ∧ (bt (co (re (bt (colv f (y - 1) 16 &&& colv f y 16)) (16 - x) x)) y) = true) := by
                   rintro ⟨q1, q2, q3⟩
                   first
                     | (rw [zb_eq0.mp h39] at q1; cases q1; done)
                     | (rw [zb_eq0.mp h69] at q3; cases q3; done)
                     | exact absurd h59 (nI_ge q2 (by omega))
                 rw [hst, if_neg hno]
                 rw [if_neg hno] at hk
                 exact hk _ (by omega) (by omega) (by omega))
          · refine R_aload_n (q := 63) rfl rfl rfl ?_
            refine R_iload_n (q := 64) rfl rfl rfl ?_
            refine R_iload (q := 66) rfl rfl rfl ?_
            refine R_callv2 (q := 69) rfl rfl rfl rfl rfl (Nat.le_of_ble_eq_true rfl) rfl ?_
            refine R_mono (c32 (by omega) (by omega)) (fun v66 M66 hr66 => ?_)
            obtain ⟨rfl, hm66⟩ := hr66
            rw [hm66]
            dsimp only [Option.toList, List.cons_append, List.nil_append]
            refine R_if_eq (q := 72) (t := 81) rfl rfl rfl (fun h69 => ?_) (fun h69 => ?_)
            · refine R_iinc (q := 84) rfl rfl rfl (nI_i1 x) rfl ?_
              dsimp only [List.set]
              refine R_goto (t := 25) rfl rfl ?_
              first
                | exact absurd (nI_le (Nat.le_refl x) (by omega)) h59
                | (have q1 := zb_ne0.mp h39
                   have q2 := nI_lt_of2 h59 (by omega)
                   have q3 := zb_ne0.mp h69
                   rw [hst, if_pos ⟨q1, q2, q3⟩]
                   rw [if_pos ⟨q1, q2, q3⟩] at hk
                   exact hk _ (by omega) (by omega) (by have := kp_le (s := s) (x := nI y) (y := nI x) (z := nI (re (bt (colv f (y - 1) 16 &&& colv f y 16)) (16 - x) x)) (b := 900 - 15 * k - (j + 1)) (by omega); omega))
                | (have hno : ¬ ((bt (co (x)) y) = true ∧ x < re (bt (colv f (y - 1) 16 &&& colv f y 16)) (16 - x) x ∧ (bt (co (re (bt (colv f (y - 1) 16 &&& colv f y 16)) (16 - x) x)) y) = true) := by
                     rintro ⟨q1, q2, q3⟩
                     first
                       | (rw [zb_eq0.mp h39] at q1; cases q1; done)
                       | (rw [zb_eq0.mp h69] at q3; cases q3; done)
                       | exact absurd h59 (nI_ge q2 (by omega))
                   rw [hst, if_neg hno]
                   rw [if_neg hno] at hk
                   exact hk _ (by omega) (by omega) (by omega))
            · refine R_aload_n (q := 73) rfl rfl rfl ?_
              refine R_iload_n (q := 74) rfl rfl rfl ?_
              refine R_iload (q := 76) rfl rfl rfl ?_
              refine R_iload (q := 78) rfl rfl rfl ?_
              refine R_callv3 (q := 81) rfl rfl rfl rfl rfl (Nat.le_of_ble_eq_true rfl) rfl ?_
              refine R_mono (c33 (by omega)) (fun v78 M78 hr78 => ?_)
              obtain ⟨rfl, hm78⟩ := hr78
              rw [hm78]
              dsimp only [Option.toList, List.cons_append, List.nil_append]
              refine R_iinc (q := 84) rfl rfl rfl (nI_i1 x) rfl ?_
              dsimp only [List.set]
              refine R_goto (t := 25) rfl rfl ?_
              first
                | exact absurd (nI_le (Nat.le_refl x) (by omega)) h59
                | (have q1 := zb_ne0.mp h39
                   have q2 := nI_lt_of2 h59 (by omega)
                   have q3 := zb_ne0.mp h69
                   rw [hst, if_pos ⟨q1, q2, q3⟩]
                   rw [if_pos ⟨q1, q2, q3⟩] at hk
                   exact hk _ (by omega) (by omega) (by have := kp_le (s := s) (x := nI y) (y := nI x) (z := nI (re (bt (colv f (y - 1) 16 &&& colv f y 16)) (16 - x) x)) (b := 900 - 15 * k - (j + 1)) (by omega); omega))
                | (have hno : ¬ ((bt (co (x)) y) = true ∧ x < re (bt (colv f (y - 1) 16 &&& colv f y 16)) (16 - x) x ∧ (bt (co (re (bt (colv f (y - 1) 16 &&& colv f y 16)) (16 - x) x)) y) = true) := by
                     rintro ⟨q1, q2, q3⟩
                     first
                       | (rw [zb_eq0.mp h39] at q1; cases q1; done)
                       | (rw [zb_eq0.mp h69] at q3; cases q3; done)
                       | exact absurd h59 (nI_ge q2 (by omega))
                   rw [hst, if_neg hno]
                   rw [if_neg hno] at hk
                   exact hk _ (by omega) (by omega) (by omega))
        · refine R_iload_n (q := 43) rfl rfl rfl ?_
          refine R_iload (q := 45) rfl rfl rfl ?_
          refine R_calls2 (q := 48) rfl rfl rfl rfl (Nat.le_of_ble_eq_true rfl) rfl ?_
          refine R_mono (c144 (by omega)) (fun v45 M45 hr45 => ?_)
          obtain ⟨rfl, hm45⟩ := hr45
          rw [hm45]
          dsimp only [Option.toList, List.cons_append, List.nil_append]
          refine R_goto (t := 53) rfl rfl ?_
          refine R_istore (q := 55) rfl rfl (Nat.le_of_ble_eq_true rfl) rfl ?_
          dsimp only [List.set]
          refine R_iload (q := 57) rfl rfl rfl ?_
          refine R_iload (q := 59) rfl rfl rfl ?_
          refine R_icmp_le (q := 62) (t := 81) rfl rfl rfl (fun h59 => ?_) (fun h59 => ?_)
          · refine R_iinc (q := 84) rfl rfl rfl (nI_i1 x) rfl ?_
            dsimp only [List.set]
            refine R_goto (t := 25) rfl rfl ?_
            first
              | exact absurd (nI_le (Nat.le_refl x) (by omega)) h59
              | (have q1 := zb_ne0.mp h39
                 have q2 := nI_lt_of2 h59 (by omega)
                 have q3 := zb_ne0.mp h69
                 rw [hst, if_pos ⟨q1, q2, q3⟩]
                 rw [if_pos ⟨q1, q2, q3⟩] at hk
                 exact hk _ (by omega) (by omega) (by have := kp_le (s := s) (x := nI y) (y := nI x) (z := nI (re (bt (colv f (y - 1) 16 &&& colv f y 16)) (16 - x) x)) (b := 900 - 15 * k - (j + 1)) (by omega); omega))
              | (have hno : ¬ ((bt (co (x)) y) = true ∧ x < re (bt (colv f (y - 1) 16 &&& colv f y 16)) (16 - x) x ∧ (bt (co (re (bt (colv f (y - 1) 16 &&& colv f y 16)) (16 - x) x)) y) = true) := by
                   rintro ⟨q1, q2, q3⟩
                   first
                     | (rw [zb_eq0.mp h39] at q1; cases q1; done)
                     | (rw [zb_eq0.mp h69] at q3; cases q3; done)
                     | exact absurd h59 (nI_ge q2 (by omega))
                 rw [hst, if_neg hno]
                 rw [if_neg hno] at hk
                 exact hk _ (by omega) (by omega) (by omega))
          · refine R_aload_n (q := 63) rfl rfl rfl ?_
            refine R_iload_n (q := 64) rfl rfl rfl ?_
            refine R_iload (q := 66) rfl rfl rfl ?_
            refine R_callv2 (q := 69) rfl rfl rfl rfl rfl (Nat.le_of_ble_eq_true rfl) rfl ?_
            refine R_mono (c32 (by omega) (by omega)) (fun v66 M66 hr66 => ?_)
            obtain ⟨rfl, hm66⟩ := hr66
            rw [hm66]
            dsimp only [Option.toList, List.cons_append, List.nil_append]
            refine R_if_eq (q := 72) (t := 81) rfl rfl rfl (fun h69 => ?_) (fun h69 => ?_)
            · refine R_iinc (q := 84) rfl rfl rfl (nI_i1 x) rfl ?_
              dsimp only [List.set]
              refine R_goto (t := 25) rfl rfl ?_
              first
                | exact absurd (nI_le (Nat.le_refl x) (by omega)) h59
                | (have q1 := zb_ne0.mp h39
                   have q2 := nI_lt_of2 h59 (by omega)
                   have q3 := zb_ne0.mp h69
                   rw [hst, if_pos ⟨q1, q2, q3⟩]
                   rw [if_pos ⟨q1, q2, q3⟩] at hk
                   exact hk _ (by omega) (by omega) (by have := kp_le (s := s) (x := nI y) (y := nI x) (z := nI (re (bt (colv f (y - 1) 16 &&& colv f y 16)) (16 - x) x)) (b := 900 - 15 * k - (j + 1)) (by omega); omega))
                | (have hno : ¬ ((bt (co (x)) y) = true ∧ x < re (bt (colv f (y - 1) 16 &&& colv f y 16)) (16 - x) x ∧ (bt (co (re (bt (colv f (y - 1) 16 &&& colv f y 16)) (16 - x) x)) y) = true) := by
                     rintro ⟨q1, q2, q3⟩
                     first
                       | (rw [zb_eq0.mp h39] at q1; cases q1; done)
                       | (rw [zb_eq0.mp h69] at q3; cases q3; done)
                       | exact absurd h59 (nI_ge q2 (by omega))
                   rw [hst, if_neg hno]
                   rw [if_neg hno] at hk
                   exact hk _ (by omega) (by omega) (by omega))
            · refine R_aload_n (q := 73) rfl rfl rfl ?_
              refine R_iload_n (q := 74) rfl rfl rfl ?_
              refine R_iload (q := 76) rfl rfl rfl ?_
              refine R_iload (q := 78) rfl rfl rfl ?_
              refine R_callv3 (q := 81) rfl rfl rfl rfl rfl (Nat.le_of_ble_eq_true rfl) rfl ?_
              refine R_mono (c33 (by omega)) (fun v78 M78 hr78 => ?_)
              obtain ⟨rfl, hm78⟩ := hr78
              rw [hm78]
              dsimp only [Option.toList, List.cons_append, List.nil_append]
              refine R_iinc (q := 84) rfl rfl rfl (nI_i1 x) rfl ?_
              dsimp only [List.set]
              refine R_goto (t := 25) rfl rfl ?_
              first
                | exact absurd (nI_le (Nat.le_refl x) (by omega)) h59
                | (have q1 := zb_ne0.mp h39
                   have q2 := nI_lt_of2 h59 (by omega)
                   have q3 := zb_ne0.mp h69
                   rw [hst, if_pos ⟨q1, q2, q3⟩]
                   rw [if_pos ⟨q1, q2, q3⟩] at hk
                   exact hk _ (by omega) (by omega) (by have := kp_le (s := s) (x := nI y) (y := nI x) (z := nI (re (bt (colv f (y - 1) 16 &&& colv f y 16)) (16 - x) x)) (b := 900 - 15 * k - (j + 1)) (by omega); omega))
                | (have hno : ¬ ((bt (co (x)) y) = true ∧ x < re (bt (colv f (y - 1) 16 &&& colv f y 16)) (16 - x) x ∧ (bt (co (re (bt (colv f (y - 1) 16 &&& colv f y 16)) (16 - x) x)) y) = true) := by
                     rintro ⟨q1, q2, q3⟩
                     first
                       | (rw [zb_eq0.mp h39] at q1; cases q1; done)
                       | (rw [zb_eq0.mp h69] at q3; cases q3; done)
                       | exact absurd h59 (nI_ge q2 (by omega))
                   rw [hst, if_neg hno]
                   rw [if_neg hno] at hk
                   exact hk _ (by omega) (by omega) (by omega))
    refine R_iload_n (q := 3) rfl rfl rfl ?_
    refine R_bipush (q := 5) (v := nI 16) rfl rfl (by decide) ?_
    refine R_icmp_ge (q := 8) (t := 93) rfl rfl rfl (fun h5 => absurd h5 (nI_ge (by omega) (by omega))) (fun h5 => ?_)
    refine R_aload_n (q := 9) rfl rfl rfl ?_
    refine R_iload_n (q := 10) rfl rfl rfl ?_
    refine R_iconst (q := 11) (v := nI 1) rfl rfl (by decide) ?_
    refine R_isub (q := 12) rfl rfl ?_
    rw [pk_sub (by omega)]
    refine R_callv1 (q := 15) rfl rfl rfl rfl (ch_CA ha haa).1 (Nat.le_of_ble_eq_true rfl) rfl ?_
    refine R_mono (c3 (ch_CA ha haa)) (fun v12 M12 hr12 => ?_)
    obtain ⟨rfl, hm12⟩ := hr12
    rw [hm12]
    dsimp only [Option.toList, List.cons_append, List.nil_append]
    refine R_aload_n (q := 16) rfl rfl rfl ?_
    refine R_iload_n (q := 17) rfl rfl rfl ?_
    refine R_callv1 (q := 20) rfl rfl rfl rfl (ch_CA ha haa).1 (Nat.le_of_ble_eq_true rfl) rfl ?_
    refine R_mono (c3 (ch_CA ha haa)) (fun v17 M17 hr17 => ?_)
    obtain ⟨rfl, hm17⟩ := hr17
    rw [hm17]
    dsimp only [Option.toList, List.cons_append, List.nil_append]
    refine R_iand (q := 21) rfl rfl ?_
    refine R_istore_n (q := 22) rfl rfl (Nat.le_of_ble_eq_true rfl) rfl ?_
    dsimp only [List.set]
    refine R_iconst (q := 23) (v := nI 1) rfl rfl (by decide) ?_
    refine R_istore (q := 25) rfl rfl (Nat.le_of_ble_eq_true rfl) rfl ?_
    dsimp only [List.set]
    exact hin 15 1 s _ rfl (by omega) (by omega)
set_option maxRecDepth 8000 in
theorem c31 {s : KS} (ha : CA M a f) (haa : a + 1 < 35 ∨ 41 < a) (hs : s.1 ≤ 600) : mm_R S (d + 2) 31 0 (mm_en 31 [.ref 35, .ref a]) [] (chk M co to pa lvI ch tr s) (fun v M' => v = none ∧ M' = (chk M co to pa lvI ch tr (lvy (fun y => colv f (y - 1) 16 &&& colv f y 16) (fun x y => bt (co y) x) 15 1 s))) := by
  show mm_R S (d + 2) 31 0 [some (.ref 35), some (.ref a), none, none, none, none] [] (chk M co to pa lvI ch tr s) _
  refine R_iconst (q := 1) (v := nI 1) rfl rfl (by decide) ?_
  refine R_istore_n (q := 2) rfl rfl (Nat.le_of_ble_eq_true rfl) rfl ?_
  dsimp only [List.set]
  exact c31_loop ha haa 15 1 s _ _ _ rfl (by omega) (by omega)
end P27
