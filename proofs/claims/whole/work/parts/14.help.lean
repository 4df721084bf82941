section P14
variable {S : mm_S} {d : Nat} {M : mm_M}
theorem c139 {s : Int32} : mm_R S d 139 0 (mm_en 139 [.int s]) [] M (fun v M' => v = some (.int (zb (decide (0 ≤ s.toInt ∧ s.toInt < 6)))) ∧ M' = M) := by
  show mm_R S d 139 0 [some (.int s)] [] M _
  refine R_iload_n (q := 1) rfl rfl rfl ?_
  refine R_if_lt (q := 4) (t := 14) rfl rfl rfl (fun h1 => ?_) (fun h1 => ?_)
  · refine R_iconst (q := 15) (v := nI 0) rfl rfl (by decide) ?_
    refine R_zreturn rfl rfl (by first | exact Or.inl rfl | exact Or.inr rfl | assumption) ?_
    refine ⟨congrArg some (congrArg Value.int ?_), rfl⟩
    first | exact (zb_t (by (try simp only [i_lt, i_le, i_eq, i_0, ik_0, ik_1, ik_2, ik_3, ik_4, ik_5, ik_6, ik_7, ik_8, ik_9, ik_10, ik_11, ik_12, ik_13, ik_14, ik_15, ik_16, ik_17, ik_18, ik_19, ik_20, ik_21, ik_22, ik_23, ik_24, ik_25, ik_26, ik_27, ik_28, ik_29, ik_30, ik_31, ik_32, ik_33, ik_34, ik_35, ik_36, ik_127, ik_128, ik_200, ik_201, ik_255, ik_256, ik_272, ik_289, ik_400, ik_512] at *) <;> omega)).symm | exact (zb_f (by (try simp only [i_lt, i_le, i_eq, i_0, ik_0, ik_1, ik_2, ik_3, ik_4, ik_5, ik_6, ik_7, ik_8, ik_9, ik_10, ik_11, ik_12, ik_13, ik_14, ik_15, ik_16, ik_17, ik_18, ik_19, ik_20, ik_21, ik_22, ik_23, ik_24, ik_25, ik_26, ik_27, ik_28, ik_29, ik_30, ik_31, ik_32, ik_33, ik_34, ik_35, ik_36, ik_127, ik_128, ik_200, ik_201, ik_255, ik_256, ik_272, ik_289, ik_400, ik_512] at *) <;> omega)).symm
  · refine R_iload_n (q := 5) rfl rfl rfl ?_
    refine R_bipush (q := 7) (v := nI 6) rfl rfl (by decide) ?_
    refine R_icmp_ge (q := 10) (t := 14) rfl rfl rfl (fun h7 => ?_) (fun h7 => ?_)
    · refine R_iconst (q := 15) (v := nI 0) rfl rfl (by decide) ?_
      refine R_zreturn rfl rfl (by first | exact Or.inl rfl | exact Or.inr rfl | assumption) ?_
      refine ⟨congrArg some (congrArg Value.int ?_), rfl⟩
      first | exact (zb_t (by (try simp only [i_lt, i_le, i_eq, i_0, ik_0, ik_1, ik_2, ik_3, ik_4, ik_5, ik_6, ik_7, ik_8, ik_9, ik_10, ik_11, ik_12, ik_13, ik_14, ik_15, ik_16, ik_17, ik_18, ik_19, ik_20, ik_21, ik_22, ik_23, ik_24, ik_25, ik_26, ik_27, ik_28, ik_29, ik_30, ik_31, ik_32, ik_33, ik_34, ik_35, ik_36, ik_127, ik_128, ik_200, ik_201, ik_255, ik_256, ik_272, ik_289, ik_400, ik_512] at *) <;> omega)).symm | exact (zb_f (by (try simp only [i_lt, i_le, i_eq, i_0, ik_0, ik_1, ik_2, ik_3, ik_4, ik_5, ik_6, ik_7, ik_8, ik_9, ik_10, ik_11, ik_12, ik_13, ik_14, ik_15, ik_16, ik_17, ik_18, ik_19, ik_20, ik_21, ik_22, ik_23, ik_24, ik_25, ik_26, ik_27, ik_28, ik_29, ik_30, ik_31, ik_32, ik_33, ik_34, ik_35, ik_36, ik_127, ik_128, ik_200, ik_201, ik_255, ik_256, ik_272, ik_289, ik_400, ik_512] at *) <;> omega)).symm
    · refine R_iconst (q := 11) (v := nI 1) rfl rfl (by decide) ?_
      refine R_goto (t := 15) rfl rfl ?_
      refine R_zreturn rfl rfl (by first | exact Or.inl rfl | exact Or.inr rfl | assumption) ?_
      refine ⟨congrArg some (congrArg Value.int ?_), rfl⟩
      first | exact (zb_t (by (try simp only [i_lt, i_le, i_eq, i_0, ik_0, ik_1, ik_2, ik_3, ik_4, ik_5, ik_6, ik_7, ik_8, ik_9, ik_10, ik_11, ik_12, ik_13, ik_14, ik_15, ik_16, ik_17, ik_18, ik_19, ik_20, ik_21, ik_22, ik_23, ik_24, ik_25, ik_26, ik_27, ik_28, ik_29, ik_30, ik_31, ik_32, ik_33, ik_34, ik_35, ik_36, ik_127, ik_128, ik_200, ik_201, ik_255, ik_256, ik_272, ik_289, ik_400, ik_512] at *) <;> omega)).symm | exact (zb_f (by (try simp only [i_lt, i_le, i_eq, i_0, ik_0, ik_1, ik_2, ik_3, ik_4, ik_5, ik_6, ik_7, ik_8, ik_9, ik_10, ik_11, ik_12, ik_13, ik_14, ik_15, ik_16, ik_17, ik_18, ik_19, ik_20, ik_21, ik_22, ik_23, ik_24, ik_25, ik_26, ik_27, ik_28, ik_29, ik_30, ik_31, ik_32, ik_33, ik_34, ik_35, ik_36, ik_127, ik_128, ik_200, ik_201, ik_255, ik_256, ik_272, ik_289, ik_400, ik_512] at *) <;> omega)).symm
theorem c140 {s : Int32} : mm_R S d 140 0 (mm_en 140 [.int s]) [] M (fun v M' => v = some (.int (zb (decide (0 ≤ s.toInt ∧ s.toInt < 6)))) ∧ M' = M) := by
  show mm_R S d 140 0 [some (.int s)] [] M _
  refine R_iload_n (q := 1) rfl rfl rfl ?_
  refine R_if_lt (q := 4) (t := 14) rfl rfl rfl (fun h1 => ?_) (fun h1 => ?_)
  · refine R_iconst (q := 15) (v := nI 0) rfl rfl (by decide) ?_
    refine R_zreturn rfl rfl (by first | exact Or.inl rfl | exact Or.inr rfl | assumption) ?_
    refine ⟨congrArg some (congrArg Value.int ?_), rfl⟩
    first | exact (zb_t (by (try simp only [i_lt, i_le, i_eq, i_0, ik_0, ik_1, ik_2, ik_3, ik_4, ik_5, ik_6, ik_7, ik_8, ik_9, ik_10, ik_11, ik_12, ik_13, ik_14, ik_15, ik_16, ik_17, ik_18, ik_19, ik_20, ik_21, ik_22, ik_23, ik_24, ik_25, ik_26, ik_27, ik_28, ik_29, ik_30, ik_31, ik_32, ik_33, ik_34, ik_35, ik_36, ik_127, ik_128, ik_200, ik_201, ik_255, ik_256, ik_272, ik_289, ik_400, ik_512] at *) <;> omega)).symm | exact (zb_f (by (try simp only [i_lt, i_le, i_eq, i_0, ik_0, ik_1, ik_2, ik_3, ik_4, ik_5, ik_6, ik_7, ik_8, ik_9, ik_10, ik_11, ik_12, ik_13, ik_14, ik_15, ik_16, ik_17, ik_18, ik_19, ik_20, ik_21, ik_22, ik_23, ik_24, ik_25, ik_26, ik_27, ik_28, ik_29, ik_30, ik_31, ik_32, ik_33, ik_34, ik_35, ik_36, ik_127, ik_128, ik_200, ik_201, ik_255, ik_256, ik_272, ik_289, ik_400, ik_512] at *) <;> omega)).symm
  · refine R_iload_n (q := 5) rfl rfl rfl ?_
    refine R_bipush (q := 7) (v := nI 6) rfl rfl (by decide) ?_
    refine R_icmp_ge (q := 10) (t := 14) rfl rfl rfl (fun h7 => ?_) (fun h7 => ?_)
    · refine R_iconst (q := 15) (v := nI 0) rfl rfl (by decide) ?_
      refine R_zreturn rfl rfl (by first | exact Or.inl rfl | exact Or.inr rfl | assumption) ?_
      refine ⟨congrArg some (congrArg Value.int ?_), rfl⟩
      first | exact (zb_t (by (try simp only [i_lt, i_le, i_eq, i_0, ik_0, ik_1, ik_2, ik_3, ik_4, ik_5, ik_6, ik_7, ik_8, ik_9, ik_10, ik_11, ik_12, ik_13, ik_14, ik_15, ik_16, ik_17, ik_18, ik_19, ik_20, ik_21, ik_22, ik_23, ik_24, ik_25, ik_26, ik_27, ik_28, ik_29, ik_30, ik_31, ik_32, ik_33, ik_34, ik_35, ik_36, ik_127, ik_128, ik_200, ik_201, ik_255, ik_256, ik_272, ik_289, ik_400, ik_512] at *) <;> omega)).symm | exact (zb_f (by (try simp only [i_lt, i_le, i_eq, i_0, ik_0, ik_1, ik_2, ik_3, ik_4, ik_5, ik_6, ik_7, ik_8, ik_9, ik_10, ik_11, ik_12, ik_13, ik_14, ik_15, ik_16, ik_17, ik_18, ik_19, ik_20, ik_21, ik_22, ik_23, ik_24, ik_25, ik_26, ik_27, ik_28, ik_29, ik_30, ik_31, ik_32, ik_33, ik_34, ik_35, ik_36, ik_127, ik_128, ik_200, ik_201, ik_255, ik_256, ik_272, ik_289, ik_400, ik_512] at *) <;> omega)).symm
    · refine R_iconst (q := 11) (v := nI 1) rfl rfl (by decide) ?_
      refine R_goto (t := 15) rfl rfl ?_
      refine R_zreturn rfl rfl (by first | exact Or.inl rfl | exact Or.inr rfl | assumption) ?_
      refine ⟨congrArg some (congrArg Value.int ?_), rfl⟩
      first | exact (zb_t (by (try simp only [i_lt, i_le, i_eq, i_0, ik_0, ik_1, ik_2, ik_3, ik_4, ik_5, ik_6, ik_7, ik_8, ik_9, ik_10, ik_11, ik_12, ik_13, ik_14, ik_15, ik_16, ik_17, ik_18, ik_19, ik_20, ik_21, ik_22, ik_23, ik_24, ik_25, ik_26, ik_27, ik_28, ik_29, ik_30, ik_31, ik_32, ik_33, ik_34, ik_35, ik_36, ik_127, ik_128, ik_200, ik_201, ik_255, ik_256, ik_272, ik_289, ik_400, ik_512] at *) <;> omega)).symm | exact (zb_f (by (try simp only [i_lt, i_le, i_eq, i_0, ik_0, ik_1, ik_2, ik_3, ik_4, ik_5, ik_6, ik_7, ik_8, ik_9, ik_10, ik_11, ik_12, ik_13, ik_14, ik_15, ik_16, ik_17, ik_18, ik_19, ik_20, ik_21, ik_22, ik_23, ik_24, ik_25, ik_26, ik_27, ik_28, ik_29, ik_30, ik_31, ik_32, ik_33, ik_34, ik_35, ik_36, ik_127, ik_128, ik_200, ik_201, ik_255, ik_256, ik_272, ik_289, ik_400, ik_512] at *) <;> omega)).symm
theorem c141 {x y : Int32} (hy : 0 ≤ y.toInt) : mm_R S d 141 0 (mm_en 141 [.int x, .int y]) [] M (fun v M' => v = some (.int (zb (decide (-y.toInt ≤ x.toInt ∧ x.toInt ≤ y.toInt)))) ∧ M' = M) := by
  have en := i_neg (a := y) (by omega)
  show mm_R S d 141 0 [some (.int x), some (.int y)] [] M _
  refine R_iload_n (q := 1) rfl rfl rfl ?_
  refine R_iload_n (q := 2) rfl rfl rfl ?_
  refine R_ineg (q := 3) rfl rfl ?_
  refine R_icmp_lt (q := 6) (t := 15) rfl rfl rfl (fun h3 => ?_) (fun h3 => ?_)
  · refine R_iconst (q := 16) (v := nI 0) rfl rfl (by decide) ?_
    refine R_zreturn rfl rfl (by first | exact Or.inl rfl | exact Or.inr rfl | assumption) ?_
    refine ⟨congrArg some (congrArg Value.int ?_), rfl⟩
    first | exact (zb_t (by (try simp only [i_lt, i_le, i_eq, i_0, ik_0, ik_1, ik_2, ik_3, ik_4, ik_5, ik_6, ik_7, ik_8, ik_9, ik_10, ik_11, ik_12, ik_13, ik_14, ik_15, ik_16, ik_17, ik_18, ik_19, ik_20, ik_21, ik_22, ik_23, ik_24, ik_25, ik_26, ik_27, ik_28, ik_29, ik_30, ik_31, ik_32, ik_33, ik_34, ik_35, ik_36, ik_127, ik_128, ik_200, ik_201, ik_255, ik_256, ik_272, ik_289, ik_400, ik_512] at *) <;> omega)).symm | exact (zb_f (by (try simp only [i_lt, i_le, i_eq, i_0, ik_0, ik_1, ik_2, ik_3, ik_4, ik_5, ik_6, ik_7, ik_8, ik_9, ik_10, ik_11, ik_12, ik_13, ik_14, ik_15, ik_16, ik_17, ik_18, ik_19, ik_20, ik_21, ik_22, ik_23, ik_24, ik_25, ik_26, ik_27, ik_28, ik_29, ik_30, ik_31, ik_32, ik_33, ik_34, ik_35, ik_36, ik_127, ik_128, ik_200, ik_201, ik_255, ik_256, ik_272, ik_289, ik_400, ik_512] at *) <;> omega)).symm
  · refine R_iload_n (q := 7) rfl rfl rfl ?_
    refine R_iload_n (q := 8) rfl rfl rfl ?_
    refine R_icmp_gt (q := 11) (t := 15) rfl rfl rfl (fun h8 => ?_) (fun h8 => ?_)
    · refine R_iconst (q := 16) (v := nI 0) rfl rfl (by decide) ?_
      refine R_zreturn rfl rfl (by first | exact Or.inl rfl | exact Or.inr rfl | assumption) ?_
      refine ⟨congrArg some (congrArg Value.int ?_), rfl⟩
      first | exact (zb_t (by (try simp only [i_lt, i_le, i_eq, i_0, ik_0, ik_1, ik_2, ik_3, ik_4, ik_5, ik_6, ik_7, ik_8, ik_9, ik_10, ik_11, ik_12, ik_13, ik_14, ik_15, ik_16, ik_17, ik_18, ik_19, ik_20, ik_21, ik_22, ik_23, ik_24, ik_25, ik_26, ik_27, ik_28, ik_29, ik_30, ik_31, ik_32, ik_33, ik_34, ik_35, ik_36, ik_127, ik_128, ik_200, ik_201, ik_255, ik_256, ik_272, ik_289, ik_400, ik_512] at *) <;> omega)).symm | exact (zb_f (by (try simp only [i_lt, i_le, i_eq, i_0, ik_0, ik_1, ik_2, ik_3, ik_4, ik_5, ik_6, ik_7, ik_8, ik_9, ik_10, ik_11, ik_12, ik_13, ik_14, ik_15, ik_16, ik_17, ik_18, ik_19, ik_20, ik_21, ik_22, ik_23, ik_24, ik_25, ik_26, ik_27, ik_28, ik_29, ik_30, ik_31, ik_32, ik_33, ik_34, ik_35, ik_36, ik_127, ik_128, ik_200, ik_201, ik_255, ik_256, ik_272, ik_289, ik_400, ik_512] at *) <;> omega)).symm
    · refine R_iconst (q := 12) (v := nI 1) rfl rfl (by decide) ?_
      refine R_goto (t := 16) rfl rfl ?_
      refine R_zreturn rfl rfl (by first | exact Or.inl rfl | exact Or.inr rfl | assumption) ?_
      refine ⟨congrArg some (congrArg Value.int ?_), rfl⟩
      first | exact (zb_t (by (try simp only [i_lt, i_le, i_eq, i_0, ik_0, ik_1, ik_2, ik_3, ik_4, ik_5, ik_6, ik_7, ik_8, ik_9, ik_10, ik_11, ik_12, ik_13, ik_14, ik_15, ik_16, ik_17, ik_18, ik_19, ik_20, ik_21, ik_22, ik_23, ik_24, ik_25, ik_26, ik_27, ik_28, ik_29, ik_30, ik_31, ik_32, ik_33, ik_34, ik_35, ik_36, ik_127, ik_128, ik_200, ik_201, ik_255, ik_256, ik_272, ik_289, ik_400, ik_512] at *) <;> omega)).symm | exact (zb_f (by (try simp only [i_lt, i_le, i_eq, i_0, ik_0, ik_1, ik_2, ik_3, ik_4, ik_5, ik_6, ik_7, ik_8, ik_9, ik_10, ik_11, ik_12, ik_13, ik_14, ik_15, ik_16, ik_17, ik_18, ik_19, ik_20, ik_21, ik_22, ik_23, ik_24, ik_25, ik_26, ik_27, ik_28, ik_29, ik_30, ik_31, ik_32, ik_33, ik_34, ik_35, ik_36, ik_127, ik_128, ik_200, ik_201, ik_255, ik_256, ik_272, ik_289, ik_400, ik_512] at *) <;> omega)).symm
theorem bt_1 (i : Nat) (h : i < 32) : bt (nI 1) i = decide (i = 0) := (by decide +kernel : ∀ i, i < 32 → bt (nI 1) i = decide (i = 0)) i h
theorem bt_bit (x : Int32) (n : Nat) (hn : n < 32) : (x >>> (nI n &&& 31)) &&& nI 1 = 0 ↔ bt x n = false := by
  constructor
  · intro h
    have h1 := congrArg (fun z => bt z 0) h
    simp only [b_and, b_0] at h1
    rw [b_sshr n hn x (by omega), bt_1 0 (by omega)] at h1
    simpa [hn] using h1
  · intro h
    apply b_ext
    intro i hi
    rw [b_and, b_sshr n hn x hi, bt_1 i hi, b_0]
    by_cases h0 : i = 0
    · subst h0
      simp [hn, h]
    · simp [h0]
theorem c142 {x : Int32} {n : Nat} (hn : n < 32) : mm_R S d 142 0 (mm_en 142 [.int x, .int (nI n)]) [] M (fun v M' => v = some (.int (zb (bt x n))) ∧ M' = M) := by
  show mm_R S d 142 0 [some (.int x), some (.int (nI n))] [] M _
  refine R_iload_n (q := 1) rfl rfl rfl ?_
  refine R_iload_n (q := 2) rfl rfl rfl ?_
  refine R_ishr (q := 3) rfl rfl ?_
  refine R_iconst (q := 4) (v := nI 1) rfl rfl (by decide) ?_
  refine R_iand (q := 5) rfl rfl ?_
  refine R_if_eq (q := 8) (t := 12) rfl rfl rfl (fun h5 => ?_) (fun h5 => ?_)
  · refine R_iconst (q := 13) (v := nI 0) rfl rfl (by decide) ?_
    refine R_zreturn rfl rfl (by first | exact Or.inl rfl | exact Or.inr rfl | assumption) ?_
    first | exact ⟨by rw [(bt_bit x n hn).mp h5]; rfl, rfl⟩ | exact ⟨by rw [show bt x n = true from (by simpa using fun q => h5 ((bt_bit x n hn).mpr q))]; rfl, rfl⟩
  · refine R_iconst (q := 9) (v := nI 1) rfl rfl (by decide) ?_
    refine R_goto (t := 13) rfl rfl ?_
    refine R_zreturn rfl rfl (by first | exact Or.inl rfl | exact Or.inr rfl | assumption) ?_
    first | exact ⟨by rw [(bt_bit x n hn).mp h5]; rfl, rfl⟩ | exact ⟨by rw [show bt x n = true from (by simpa using fun q => h5 ((bt_bit x n hn).mpr q))]; rfl, rfl⟩
def onp (x y w h : Int32) : Prop := (0 ≤ x.toInt ∧ 1 ≤ w.toInt ∧ x.toInt + w.toInt ≤ 16) ∧ 0 ≤ y.toInt ∧ 1 ≤ h.toInt ∧ y.toInt + h.toInt ≤ 16
theorem onp_dec (x y w h : Int32) : onp x y w h ↔ (decide (0 ≤ x.toInt ∧ 1 ≤ w.toInt ∧ x.toInt + w.toInt ≤ 16) && decide (0 ≤ y.toInt ∧ 1 ≤ h.toInt ∧ y.toInt + h.toInt ≤ 16)) = true := by
  unfold onp
  rw [Bool.and_eq_true, decide_eq_true_eq, decide_eq_true_eq]
theorem c143 {x y w h : Int32} : mm_R S d 143 0 (mm_en 143 [.int x, .int y, .int w, .int h]) [] M (fun v M' => v = some (.int (zb (decide ((0 ≤ x.toInt ∧ 1 ≤ w.toInt ∧ x.toInt + w.toInt ≤ 16) ∧ 0 ≤ y.toInt ∧ 1 ≤ h.toInt ∧ y.toInt + h.toInt ≤ 16)))) ∧ M' = M) := by
  show mm_R S d 143 0 [some (.int x), some (.int y), some (.int w), some (.int h)] [] M _
  refine R_iload_n (q := 1) rfl rfl rfl ?_
  refine R_if_lt (q := 4) (t := 50) rfl rfl rfl (fun h1 => ?_) (fun h1 => ?_)
  · refine R_iconst (q := 51) (v := nI 0) rfl rfl (by decide) ?_
    refine R_zreturn rfl rfl (by first | exact Or.inl rfl | exact Or.inr rfl | assumption) ?_
    refine ⟨congrArg some (congrArg Value.int ?_), rfl⟩
    first | exact (zb_t (by (try simp only [i_lt, i_le, i_eq, i_0, ik_0, ik_1, ik_2, ik_3, ik_4, ik_5, ik_6, ik_7, ik_8, ik_9, ik_10, ik_11, ik_12, ik_13, ik_14, ik_15, ik_16, ik_17, ik_18, ik_19, ik_20, ik_21, ik_22, ik_23, ik_24, ik_25, ik_26, ik_27, ik_28, ik_29, ik_30, ik_31, ik_32, ik_33, ik_34, ik_35, ik_36, ik_127, ik_128, ik_200, ik_201, ik_255, ik_256, ik_272, ik_289, ik_400, ik_512] at *) <;> omega)).symm | exact (zb_f (by (try simp only [i_lt, i_le, i_eq, i_0, ik_0, ik_1, ik_2, ik_3, ik_4, ik_5, ik_6, ik_7, ik_8, ik_9, ik_10, ik_11, ik_12, ik_13, ik_14, ik_15, ik_16, ik_17, ik_18, ik_19, ik_20, ik_21, ik_22, ik_23, ik_24, ik_25, ik_26, ik_27, ik_28, ik_29, ik_30, ik_31, ik_32, ik_33, ik_34, ik_35, ik_36, ik_127, ik_128, ik_200, ik_201, ik_255, ik_256, ik_272, ik_289, ik_400, ik_512] at *) <;> omega)).symm
  · refine R_iload_n (q := 5) rfl rfl rfl ?_
    refine R_bipush (q := 7) (v := nI 16) rfl rfl (by decide) ?_
    refine R_icmp_ge (q := 10) (t := 50) rfl rfl rfl (fun h7 => ?_) (fun h7 => ?_)
    · refine R_iconst (q := 51) (v := nI 0) rfl rfl (by decide) ?_
      refine R_zreturn rfl rfl (by first | exact Or.inl rfl | exact Or.inr rfl | assumption) ?_
      refine ⟨congrArg some (congrArg Value.int ?_), rfl⟩
      first | exact (zb_t (by (try simp only [i_lt, i_le, i_eq, i_0, ik_0, ik_1, ik_2, ik_3, ik_4, ik_5, ik_6, ik_7, ik_8, ik_9, ik_10, ik_11, ik_12, ik_13, ik_14, ik_15, ik_16, ik_17, ik_18, ik_19, ik_20, ik_21, ik_22, ik_23, ik_24, ik_25, ik_26, ik_27, ik_28, ik_29, ik_30, ik_31, ik_32, ik_33, ik_34, ik_35, ik_36, ik_127, ik_128, ik_200, ik_201, ik_255, ik_256, ik_272, ik_289, ik_400, ik_512] at *) <;> omega)).symm | exact (zb_f (by (try simp only [i_lt, i_le, i_eq, i_0, ik_0, ik_1, ik_2, ik_3, ik_4, ik_5, ik_6, ik_7, ik_8, ik_9, ik_10, ik_11, ik_12, ik_13, ik_14, ik_15, ik_16, ik_17, ik_18, ik_19, ik_20, ik_21, ik_22, ik_23, ik_24, ik_25, ik_26, ik_27, ik_28, ik_29, ik_30, ik_31, ik_32, ik_33, ik_34, ik_35, ik_36, ik_127, ik_128, ik_200, ik_201, ik_255, ik_256, ik_272, ik_289, ik_400, ik_512] at *) <;> omega)).symm
    · refine R_iload_n (q := 11) rfl rfl rfl ?_
      refine R_iconst (q := 12) (v := nI 1) rfl rfl (by decide) ?_
      refine R_icmp_lt (q := 15) (t := 50) rfl rfl rfl (fun h12 => ?_) (fun h12 => ?_)
      · refine R_iconst (q := 51) (v := nI 0) rfl rfl (by decide) ?_
        refine R_zreturn rfl rfl (by first | exact Or.inl rfl | exact Or.inr rfl | assumption) ?_
        refine ⟨congrArg some (congrArg Value.int ?_), rfl⟩
        first | exact (zb_t (by (try simp only [i_lt, i_le, i_eq, i_0, ik_0, ik_1, ik_2, ik_3, ik_4, ik_5, ik_6, ik_7, ik_8, ik_9, ik_10, ik_11, ik_12, ik_13, ik_14, ik_15, ik_16, ik_17, ik_18, ik_19, ik_20, ik_21, ik_22, ik_23, ik_24, ik_25, ik_26, ik_27, ik_28, ik_29, ik_30, ik_31, ik_32, ik_33, ik_34, ik_35, ik_36, ik_127, ik_128, ik_200, ik_201, ik_255, ik_256, ik_272, ik_289, ik_400, ik_512] at *) <;> omega)).symm | exact (zb_f (by (try simp only [i_lt, i_le, i_eq, i_0, ik_0, ik_1, ik_2, ik_3, ik_4, ik_5, ik_6, ik_7, ik_8, ik_9, ik_10, ik_11, ik_12, ik_13, ik_14, ik_15, ik_16, ik_17, ik_18, ik_19, ik_20, ik_21, ik_22, ik_23, ik_24, ik_25, ik_26, ik_27, ik_28, ik_29, ik_30, ik_31, ik_32, ik_33, ik_34, ik_35, ik_36, ik_127, ik_128, ik_200, ik_201, ik_255, ik_256, ik_272, ik_289, ik_400, ik_512] at *) <;> omega)).symm
      · refine R_iload_n (q := 16) rfl rfl rfl ?_
        refine R_bipush (q := 18) (v := nI 16) rfl rfl (by decide) ?_
        refine R_iload_n (q := 19) rfl rfl rfl ?_
        refine R_isub (q := 20) rfl rfl ?_
        have ex : (nI 16 - x).toInt = 16 - x.toInt := by
          rw [i_sub (by rw [i_16]; (try simp only [i_lt, i_le, i_eq, i_0, ik_0, ik_1, ik_2, ik_3, ik_4, ik_5, ik_6, ik_7, ik_8, ik_9, ik_10, ik_11, ik_12, ik_13, ik_14, ik_15, ik_16, ik_17, ik_18, ik_19, ik_20, ik_21, ik_22, ik_23, ik_24, ik_25, ik_26, ik_27, ik_28, ik_29, ik_30, ik_31, ik_32, ik_33, ik_34, ik_35, ik_36, ik_127, ik_128, ik_200, ik_201, ik_255, ik_256, ik_272, ik_289, ik_400, ik_512] at *) <;> omega), i_16]
        refine R_icmp_gt (q := 23) (t := 50) rfl rfl rfl (fun h20 => ?_) (fun h20 => ?_)
        · refine R_iconst (q := 51) (v := nI 0) rfl rfl (by decide) ?_
          refine R_zreturn rfl rfl (by first | exact Or.inl rfl | exact Or.inr rfl | assumption) ?_
          refine ⟨congrArg some (congrArg Value.int ?_), rfl⟩
          first | exact (zb_t (by (try simp only [i_lt, i_le, i_eq, i_0, ik_0, ik_1, ik_2, ik_3, ik_4, ik_5, ik_6, ik_7, ik_8, ik_9, ik_10, ik_11, ik_12, ik_13, ik_14, ik_15, ik_16, ik_17, ik_18, ik_19, ik_20, ik_21, ik_22, ik_23, ik_24, ik_25, ik_26, ik_27, ik_28, ik_29, ik_30, ik_31, ik_32, ik_33, ik_34, ik_35, ik_36, ik_127, ik_128, ik_200, ik_201, ik_255, ik_256, ik_272, ik_289, ik_400, ik_512] at *) <;> omega)).symm | exact (zb_f (by (try simp only [i_lt, i_le, i_eq, i_0, ik_0, ik_1, ik_2, ik_3, ik_4, ik_5, ik_6, ik_7, ik_8, ik_9, ik_10, ik_11, ik_12, ik_13, ik_14, ik_15, ik_16, ik_17, ik_18, ik_19, ik_20, ik_21, ik_22, ik_23, ik_24, ik_25, ik_26, ik_27, ik_28, ik_29, ik_30, ik_31, ik_32, ik_33, ik_34, ik_35, ik_36, ik_127, ik_128, ik_200, ik_201, ik_255, ik_256, ik_272, ik_289, ik_400, ik_512] at *) <;> omega)).symm
        · refine R_iload_n (q := 24) rfl rfl rfl ?_
          refine R_if_lt (q := 27) (t := 50) rfl rfl rfl (fun h24 => ?_) (fun h24 => ?_)
          · refine R_iconst (q := 51) (v := nI 0) rfl rfl (by decide) ?_
            refine R_zreturn rfl rfl (by first | exact Or.inl rfl | exact Or.inr rfl | assumption) ?_
            refine ⟨congrArg some (congrArg Value.int ?_), rfl⟩
            first | exact (zb_t (by (try simp only [i_lt, i_le, i_eq, i_0, ik_0, ik_1, ik_2, ik_3, ik_4, ik_5, ik_6, ik_7, ik_8, ik_9, ik_10, ik_11, ik_12, ik_13, ik_14, ik_15, ik_16, ik_17, ik_18, ik_19, ik_20, ik_21, ik_22, ik_23, ik_24, ik_25, ik_26, ik_27, ik_28, ik_29, ik_30, ik_31, ik_32, ik_33, ik_34, ik_35, ik_36, ik_127, ik_128, ik_200, ik_201, ik_255, ik_256, ik_272, ik_289, ik_400, ik_512] at *) <;> omega)).symm | exact (zb_f (by (try simp only [i_lt, i_le, i_eq, i_0, ik_0, ik_1, ik_2, ik_3, ik_4, ik_5, ik_6, ik_7, ik_8, ik_9, ik_10, ik_11, ik_12, ik_13, ik_14, ik_15, ik_16, ik_17, ik_18, ik_19, ik_20, ik_21, ik_22, ik_23, ik_24, ik_25, ik_26, ik_27, ik_28, ik_29, ik_30, ik_31, ik_32, ik_33, ik_34, ik_35, ik_36, ik_127, ik_128, ik_200, ik_201, ik_255, ik_256, ik_272, ik_289, ik_400, ik_512] at *) <;> omega)).symm
          · refine R_iload_n (q := 28) rfl rfl rfl ?_
            refine R_bipush (q := 30) (v := nI 16) rfl rfl (by decide) ?_
            refine R_icmp_ge (q := 33) (t := 50) rfl rfl rfl (fun h30 => ?_) (fun h30 => ?_)
            · refine R_iconst (q := 51) (v := nI 0) rfl rfl (by decide) ?_
              refine R_zreturn rfl rfl (by first | exact Or.inl rfl | exact Or.inr rfl | assumption) ?_
              refine ⟨congrArg some (congrArg Value.int ?_), rfl⟩
              first | exact (zb_t (by (try simp only [i_lt, i_le, i_eq, i_0, ik_0, ik_1, ik_2, ik_3, ik_4, ik_5, ik_6, ik_7, ik_8, ik_9, ik_10, ik_11, ik_12, ik_13, ik_14, ik_15, ik_16, ik_17, ik_18, ik_19, ik_20, ik_21, ik_22, ik_23, ik_24, ik_25, ik_26, ik_27, ik_28, ik_29, ik_30, ik_31, ik_32, ik_33, ik_34, ik_35, ik_36, ik_127, ik_128, ik_200, ik_201, ik_255, ik_256, ik_272, ik_289, ik_400, ik_512] at *) <;> omega)).symm | exact (zb_f (by (try simp only [i_lt, i_le, i_eq, i_0, ik_0, ik_1, ik_2, ik_3, ik_4, ik_5, ik_6, ik_7, ik_8, ik_9, ik_10, ik_11, ik_12, ik_13, ik_14, ik_15, ik_16, ik_17, ik_18, ik_19, ik_20, ik_21, ik_22, ik_23, ik_24, ik_25, ik_26, ik_27, ik_28, ik_29, ik_30, ik_31, ik_32, ik_33, ik_34, ik_35, ik_36, ik_127, ik_128, ik_200, ik_201, ik_255, ik_256, ik_272, ik_289, ik_400, ik_512] at *) <;> omega)).symm
            · refine R_iload_n (q := 34) rfl rfl rfl ?_
              refine R_iconst (q := 35) (v := nI 1) rfl rfl (by decide) ?_
              refine R_icmp_lt (q := 38) (t := 50) rfl rfl rfl (fun h35 => ?_) (fun h35 => ?_)
              · refine R_iconst (q := 51) (v := nI 0) rfl rfl (by decide) ?_
                refine R_zreturn rfl rfl (by first | exact Or.inl rfl | exact Or.inr rfl | assumption) ?_
                refine ⟨congrArg some (congrArg Value.int ?_), rfl⟩
                first | exact (zb_t (by (try simp only [i_lt, i_le, i_eq, i_0, ik_0, ik_1, ik_2, ik_3, ik_4, ik_5, ik_6, ik_7, ik_8, ik_9, ik_10, ik_11, ik_12, ik_13, ik_14, ik_15, ik_16, ik_17, ik_18, ik_19, ik_20, ik_21, ik_22, ik_23, ik_24, ik_25, ik_26, ik_27, ik_28, ik_29, ik_30, ik_31, ik_32, ik_33, ik_34, ik_35, ik_36, ik_127, ik_128, ik_200, ik_201, ik_255, ik_256, ik_272, ik_289, ik_400, ik_512] at *) <;> omega)).symm | exact (zb_f (by (try simp only [i_lt, i_le, i_eq, i_0, ik_0, ik_1, ik_2, ik_3, ik_4, ik_5, ik_6, ik_7, ik_8, ik_9, ik_10, ik_11, ik_12, ik_13, ik_14, ik_15, ik_16, ik_17, ik_18, ik_19, ik_20, ik_21, ik_22, ik_23, ik_24, ik_25, ik_26, ik_27, ik_28, ik_29, ik_30, ik_31, ik_32, ik_33, ik_34, ik_35, ik_36, ik_127, ik_128, ik_200, ik_201, ik_255, ik_256, ik_272, ik_289, ik_400, ik_512] at *) <;> omega)).symm
              · refine R_iload_n (q := 39) rfl rfl rfl ?_
                refine R_bipush (q := 41) (v := nI 16) rfl rfl (by decide) ?_
                refine R_iload_n (q := 42) rfl rfl rfl ?_
                refine R_isub (q := 43) rfl rfl ?_
                have ey : (nI 16 - y).toInt = 16 - y.toInt := by
                  rw [i_sub (by rw [i_16]; (try simp only [i_lt, i_le, i_eq, i_0, ik_0, ik_1, ik_2, ik_3, ik_4, ik_5, ik_6, ik_7, ik_8, ik_9, ik_10, ik_11, ik_12, ik_13, ik_14, ik_15, ik_16, ik_17, ik_18, ik_19, ik_20, ik_21, ik_22, ik_23, ik_24, ik_25, ik_26, ik_27, ik_28, ik_29, ik_30, ik_31, ik_32, ik_33, ik_34, ik_35, ik_36, ik_127, ik_128, ik_200, ik_201, ik_255, ik_256, ik_272, ik_289, ik_400, ik_512] at *) <;> omega), i_16]
                refine R_icmp_gt (q := 46) (t := 50) rfl rfl rfl (fun h43 => ?_) (fun h43 => ?_)
                · refine R_iconst (q := 51) (v := nI 0) rfl rfl (by decide) ?_
                  refine R_zreturn rfl rfl (by first | exact Or.inl rfl | exact Or.inr rfl | assumption) ?_
                  refine ⟨congrArg some (congrArg Value.int ?_), rfl⟩
                  first | exact (zb_t (by (try simp only [i_lt, i_le, i_eq, i_0, ik_0, ik_1, ik_2, ik_3, ik_4, ik_5, ik_6, ik_7, ik_8, ik_9, ik_10, ik_11, ik_12, ik_13, ik_14, ik_15, ik_16, ik_17, ik_18, ik_19, ik_20, ik_21, ik_22, ik_23, ik_24, ik_25, ik_26, ik_27, ik_28, ik_29, ik_30, ik_31, ik_32, ik_33, ik_34, ik_35, ik_36, ik_127, ik_128, ik_200, ik_201, ik_255, ik_256, ik_272, ik_289, ik_400, ik_512] at *) <;> omega)).symm | exact (zb_f (by (try simp only [i_lt, i_le, i_eq, i_0, ik_0, ik_1, ik_2, ik_3, ik_4, ik_5, ik_6, ik_7, ik_8, ik_9, ik_10, ik_11, ik_12, ik_13, ik_14, ik_15, ik_16, ik_17, ik_18, ik_19, ik_20, ik_21, ik_22, ik_23, ik_24, ik_25, ik_26, ik_27, ik_28, ik_29, ik_30, ik_31, ik_32, ik_33, ik_34, ik_35, ik_36, ik_127, ik_128, ik_200, ik_201, ik_255, ik_256, ik_272, ik_289, ik_400, ik_512] at *) <;> omega)).symm
                · refine R_iconst (q := 47) (v := nI 1) rfl rfl (by decide) ?_
                  refine R_goto (t := 51) rfl rfl ?_
                  refine R_zreturn rfl rfl (by first | exact Or.inl rfl | exact Or.inr rfl | assumption) ?_
                  refine ⟨congrArg some (congrArg Value.int ?_), rfl⟩
                  first | exact (zb_t (by (try simp only [i_lt, i_le, i_eq, i_0, ik_0, ik_1, ik_2, ik_3, ik_4, ik_5, ik_6, ik_7, ik_8, ik_9, ik_10, ik_11, ik_12, ik_13, ik_14, ik_15, ik_16, ik_17, ik_18, ik_19, ik_20, ik_21, ik_22, ik_23, ik_24, ik_25, ik_26, ik_27, ik_28, ik_29, ik_30, ik_31, ik_32, ik_33, ik_34, ik_35, ik_36, ik_127, ik_128, ik_200, ik_201, ik_255, ik_256, ik_272, ik_289, ik_400, ik_512] at *) <;> omega)).symm | exact (zb_f (by (try simp only [i_lt, i_le, i_eq, i_0, ik_0, ik_1, ik_2, ik_3, ik_4, ik_5, ik_6, ik_7, ik_8, ik_9, ik_10, ik_11, ik_12, ik_13, ik_14, ik_15, ik_16, ik_17, ik_18, ik_19, ik_20, ik_21, ik_22, ik_23, ik_24, ik_25, ik_26, ik_27, ik_28, ik_29, ik_30, ik_31, ik_32, ik_33, ik_34, ik_35, ik_36, ik_127, ik_128, ik_200, ik_201, ik_255, ik_256, ik_272, ik_289, ik_400, ik_512] at *) <;> omega)).symm
def spn (a b : Nat) : Int32 := (nI 1 <<< (nI b &&& 31)) - (nI 1 <<< (nI a &&& 31))
theorem spn_bt0 : ∀ a, a < 18 → ∀ b, b < 18 → a ≤ b → ∀ i, i < 32 → bt (spn a b) i = decide (a ≤ i ∧ i < b) := by decide +kernel
theorem spn_bt {a b i : Nat} (hb : b < 18) (hab : a ≤ b) (hi : i < 32) : bt (spn a b) i = decide (a ≤ i ∧ i < b) := spn_bt0 a (by omega) b hb hab i hi
theorem c145 {a b : Nat} : mm_R S d 145 0 (mm_en 145 [.int (nI a), .int (nI b)]) [] M (fun v M' => v = some (.int (spn a b)) ∧ M' = M) := by
  show mm_R S d 145 0 [some (.int (nI a)), some (.int (nI b))] [] M _
  refine R_iconst (q := 1) (v := nI 1) rfl rfl (by decide) ?_
  refine R_iload_n (q := 2) rfl rfl rfl ?_
  refine R_ishl (q := 3) rfl rfl ?_
  refine R_iconst (q := 4) (v := nI 1) rfl rfl (by decide) ?_
  refine R_iload_n (q := 5) rfl rfl rfl ?_
  refine R_ishl (q := 6) rfl rfl ?_
  refine R_isub (q := 7) rfl rfl ?_
  refine R_ireturn rfl rfl ?_
  exact ⟨rfl, rfl⟩
/-- where a row of bits that are set ends -/
def re (g : Nat → Bool) : Nat → Nat → Nat
  | 0, s => s
  | n + 1, s => if g s = true then re g n (s + 1) else s
theorem c144_loop {x y : Int32} : ∀ (n s : Nat), s + n = 16 → mm_R S (d + 1) 144 2 [some (.int x), some (.int y), some (.int (nI s))] [] M (fun v M' => v = some (.int (nI (re (bt x) n s))) ∧ M' = M) := by
  intro n
  induction n with
  | zero =>
    intro s hs
    refine R_iload_n (q := 3) rfl rfl rfl ?_
    refine R_bipush (q := 5) (v := nI 16) rfl rfl (by decide) ?_
    refine R_icmp_ge (q := 8) (t := 22) rfl rfl rfl (fun h5 => ?_) (fun h5 => absurd (nI_le (by omega) (by omega)) h5)
    refine R_iload_n (q := 23) rfl rfl rfl ?_
    refine R_ireturn rfl rfl ?_
    exact ⟨rfl, rfl⟩
  | succ n ih =>
    intro s hs
    refine R_iload_n (q := 3) rfl rfl rfl ?_
    refine R_bipush (q := 5) (v := nI 16) rfl rfl (by decide) ?_
    refine R_icmp_ge (q := 8) (t := 22) rfl rfl rfl (fun h5 => absurd h5 (nI_ge (by omega) (by decide))) (fun h5 => ?_)
    refine R_iload_n (q := 9) rfl rfl rfl ?_
    refine R_iload_n (q := 10) rfl rfl rfl ?_
    refine R_calls2 (q := 13) rfl rfl rfl rfl (Nat.le_of_ble_eq_true rfl) rfl ?_
    refine R_mono (c142 (by omega)) (fun v10 M10 hr10 => ?_)
    obtain ⟨rfl, hm10⟩ := hr10
    rw [hm10]
    dsimp only [Option.toList, List.cons_append, List.nil_append]
    refine R_if_eq (q := 16) (t := 22) rfl rfl rfl (fun h13 => ?_) (fun h13 => ?_)
    · refine R_iload_n (q := 23) rfl rfl rfl ?_
      refine R_ireturn rfl rfl ?_
      refine ⟨?_, rfl⟩
      have e : re (bt x) (n + 1) s = s := by
        show (if bt x s = true then re (bt x) n (s + 1) else s) = _
        rw [if_neg (by rw [zb_eq0.mp h13]; decide)]
      rw [e]
    · refine R_iinc (q := 19) rfl rfl rfl (nI_i1 s) rfl ?_
      dsimp only [List.set]
      refine R_goto (t := 2) rfl rfl ?_
      have e : re (bt x) (n + 1) s = re (bt x) n (s + 1) := by
        show (if bt x s = true then re (bt x) n (s + 1) else s) = _
        rw [if_pos (zb_ne0.mp h13)]
      rw [e]
      exact ih (s + 1) (by omega)
theorem c144 {x : Int32} {s : Nat} (hs : s ≤ 16) : mm_R S (d + 1) 144 0 (mm_en 144 [.int x, .int (nI s)]) [] M (fun v M' => v = some (.int (nI (re (bt x) (16 - s) s))) ∧ M' = M) := by
  show mm_R S (d + 1) 144 0 [some (.int x), some (.int (nI s)), none] [] M _
  refine R_iload_n (q := 1) rfl rfl rfl ?_
  refine R_istore_n (q := 2) rfl rfl (Nat.le_of_ble_eq_true rfl) rfl ?_
  dsimp only [List.set]
  exact c144_loop (16 - s) s (by omega)
end P14
