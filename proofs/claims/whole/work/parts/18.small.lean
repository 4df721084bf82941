/-! ===== Items, Tape, Outline ===== -/
def IT (M : mm_M) (a n : Nat) (p : Nat → Int32) : Prop := M.1 a = some (.inr (3, [.ref (a + 1), .int (nI n)])) ∧ M.1 (a + 1) = some (.inl (0, 256, .inl p)) ∧ n ≤ 256
def TP (M : mm_M) (a n : Nat) (p : Nat → Int32) : Prop := M.1 a = some (.inr (8, [.ref (a + 1), .int (nI n)])) ∧ M.1 (a + 1) = some (.inl (0, 400, .inl p)) ∧ n ≤ 400
def OL (M : mm_M) (a n : Nat) (px py : Nat → Int32) : Prop := M.1 a = some (.inr (5, [.ref (a + 1), .ref (a + 2), .int (nI n)])) ∧ M.1 (a + 1) = some (.inl (0, 24, .inl px)) ∧ M.1 (a + 2) = some (.inl (0, 24, .inl py)) ∧ n ≤ 24
section P18
variable {S : mm_S} {d : Nat} {M : mm_M} {a b n n2 : Nat} {p p2 px py : Nat → Int32}
theorem c49 (h : IT M a n p) : mm_R S d 49 0 (mm_en 49 [.ref a]) [] M (fun v M' => v = none ∧ M' = mm_put M a (.inr (3, [.ref (a + 1), .int (nI 0)]))) := by
  obtain ⟨h1, h2, h3⟩ := h
  show mm_R S d 49 0 [some (.ref a)] [] M _
  refine R_aload_n (q := 1) rfl rfl rfl ?_
  refine R_iconst (q := 2) (v := nI 0) rfl rfl (by decide) ?_
  refine R_putf (q := 5) rfl rfl rfl (by first | assumption | exact mm_pe | (rw [mm_pn (by omega)]; first | assumption | exact mm_pe | (rw [mm_pn (by omega)]; first | assumption | exact mm_pe | (rw [mm_pn (by omega)]; first | assumption | exact mm_pe | (rw [mm_pn (by omega)]; first | assumption | exact mm_pe | (rw [mm_pn (by omega)]; first | assumption | exact mm_pe)))))) (Nat.le_of_ble_eq_true rfl) rfl (fun hf => absurd hf (by decide)) rfl ?_
  dsimp only [List.set]
  refine R_return rfl rfl ?_
  exact ⟨rfl, rfl⟩
theorem c50 (h : IT M a n p) : mm_R S d 50 0 (mm_en 50 [.ref a]) [] M (fun v M' => v = some (.int (nI n)) ∧ M' = M) := by
  obtain ⟨h1, h2, h3⟩ := h
  show mm_R S d 50 0 [some (.ref a)] [] M _
  refine R_aload_n (q := 1) rfl rfl rfl ?_
  refine R_getf (q := 4) rfl rfl rfl (by first | assumption | exact mm_pe | (rw [mm_pn (by omega)]; first | assumption | exact mm_pe | (rw [mm_pn (by omega)]; first | assumption | exact mm_pe | (rw [mm_pn (by omega)]; first | assumption | exact mm_pe | (rw [mm_pn (by omega)]; first | assumption | exact mm_pe | (rw [mm_pn (by omega)]; first | assumption | exact mm_pe)))))) rfl ?_
  refine R_ireturn rfl rfl ?_
  exact ⟨rfl, rfl⟩
def pkd (x y w h : Int32) : Int32 := ((x ||| y <<< (nI 5 &&& 31)) ||| w <<< (nI 10 &&& 31)) ||| h <<< (nI 15 &&& 31)
theorem c51 {x y w h : Int32} (hi : IT M a n p) (hn : n < 256) : mm_R S d 51 0 (mm_en 51 [.ref a, .int x, .int y, .int w, .int h]) [] M (fun v M' => v = none ∧ M' = mm_put (mm_put M (a + 1) (.inl (0, 256, .inl (upd p n (pkd x y w h))))) a (.inr (3, [.ref (a + 1), .int (nI (n + 1))]))) := by
  obtain ⟨h1, h2, h3⟩ := hi
  show mm_R S d 51 0 [some (.ref a), some (.int x), some (.int y), some (.int w), some (.int h)] [] M _
  refine R_aload_n (q := 1) rfl rfl rfl ?_
  refine R_getf (q := 4) rfl rfl rfl (by first | assumption | exact mm_pe | (rw [mm_pn (by omega)]; first | assumption | exact mm_pe | (rw [mm_pn (by omega)]; first | assumption | exact mm_pe | (rw [mm_pn (by omega)]; first | assumption | exact mm_pe | (rw [mm_pn (by omega)]; first | assumption | exact mm_pe | (rw [mm_pn (by omega)]; first | assumption | exact mm_pe)))))) rfl ?_
  refine R_sipush (q := 7) (v := nI 256) rfl rfl (by decide) ?_
  refine R_icmp_ge (q := 10) (t := 45) rfl rfl rfl (fun h7 => absurd h7 (nI_ge hn (by decide))) (fun h7 => ?_)
  refine R_aload_n (q := 11) rfl rfl rfl ?_
  refine R_getf (q := 14) rfl rfl rfl (by first | assumption | exact mm_pe | (rw [mm_pn (by omega)]; first | assumption | exact mm_pe | (rw [mm_pn (by omega)]; first | assumption | exact mm_pe | (rw [mm_pn (by omega)]; first | assumption | exact mm_pe | (rw [mm_pn (by omega)]; first | assumption | exact mm_pe | (rw [mm_pn (by omega)]; first | assumption | exact mm_pe)))))) rfl ?_
  refine R_aload_n (q := 15) rfl rfl rfl ?_
  refine R_getf (q := 18) rfl rfl rfl (by first | assumption | exact mm_pe | (rw [mm_pn (by omega)]; first | assumption | exact mm_pe | (rw [mm_pn (by omega)]; first | assumption | exact mm_pe | (rw [mm_pn (by omega)]; first | assumption | exact mm_pe | (rw [mm_pn (by omega)]; first | assumption | exact mm_pe | (rw [mm_pn (by omega)]; first | assumption | exact mm_pe)))))) rfl ?_
  refine R_iload_n (q := 19) rfl rfl rfl ?_
  refine R_iload_n (q := 20) rfl rfl rfl ?_
  refine R_iconst (q := 21) (v := nI 5) rfl rfl (by decide) ?_
  refine R_ishl (q := 22) rfl rfl ?_
  refine R_ior (q := 23) rfl rfl ?_
  refine R_iload_n (q := 24) rfl rfl rfl ?_
  refine R_bipush (q := 26) (v := nI 10) rfl rfl (by decide) ?_
  refine R_ishl (q := 27) rfl rfl ?_
  refine R_ior (q := 28) rfl rfl ?_
  refine R_iload (q := 30) rfl rfl rfl ?_
  refine R_bipush (q := 32) (v := nI 15) rfl rfl (by decide) ?_
  refine R_ishl (q := 33) rfl rfl ?_
  refine R_ior (q := 34) rfl rfl ?_
  refine R_iastore (q := 35) rfl rfl (by first | assumption | exact mm_pe | (rw [mm_pn (by omega)]; first | assumption | exact mm_pe | (rw [mm_pn (by omega)]; first | assumption | exact mm_pe | (rw [mm_pn (by omega)]; first | assumption | exact mm_pe | (rw [mm_pn (by omega)]; first | assumption | exact mm_pe | (rw [mm_pn (by omega)]; first | assumption | exact mm_pe)))))) (by first | assumption | exact in_nI (by omega) (by decide)) ?_
  rw [cl_nI (by omega)]
  refine R_aload_n (q := 36) rfl rfl rfl ?_
  first | refine R_dupa (q := 37) rfl rfl ?_ | refine R_dupi (q := 37) rfl rfl ?_
  refine R_getf (q := 40) rfl rfl rfl (by first | assumption | exact mm_pe | (rw [mm_pn (by omega)]; first | assumption | exact mm_pe | (rw [mm_pn (by omega)]; first | assumption | exact mm_pe | (rw [mm_pn (by omega)]; first | assumption | exact mm_pe | (rw [mm_pn (by omega)]; first | assumption | exact mm_pe | (rw [mm_pn (by omega)]; first | assumption | exact mm_pe)))))) rfl ?_
  refine R_iconst (q := 41) (v := nI 1) rfl rfl (by decide) ?_
  refine R_iadd (q := 42) rfl rfl ?_
  rw [nI_add]
  refine R_putf (q := 45) rfl rfl rfl (by first | assumption | exact mm_pe | (rw [mm_pn (by omega)]; first | assumption | exact mm_pe | (rw [mm_pn (by omega)]; first | assumption | exact mm_pe | (rw [mm_pn (by omega)]; first | assumption | exact mm_pe | (rw [mm_pn (by omega)]; first | assumption | exact mm_pe | (rw [mm_pn (by omega)]; first | assumption | exact mm_pe)))))) (Nat.le_of_ble_eq_true rfl) rfl (fun hf => absurd hf (by decide)) rfl ?_
  dsimp only [List.set]
  refine R_return rfl rfl ?_
  exact ⟨rfl, rfl⟩
def itv (n : Nat) (p : Nat → Int32) (i q : Int32) : Int32 := if (0 ≤ i.toInt ∧ i.toInt < n) ∧ 0 ≤ q.toInt ∧ q.toInt < 4 then (p i.toNatClampNeg >>> (q * nI 5 &&& 31)) &&& nI 31 else (-1000)
theorem c52 {i q : Int32} (hi : IT M a n p) : mm_R S d 52 0 (mm_en 52 [.ref a, .int i, .int q]) [] M (fun v M' => v = some (.int (itv n p i q)) ∧ M' = M) := by
  obtain ⟨h1, h2, h3⟩ := hi
  have hnn := i_n n (by omega)
  unfold itv
  show mm_R S d 52 0 [some (.ref a), some (.int i), some (.int q)] [] M _
  refine R_iload_n (q := 1) rfl rfl rfl ?_
  refine R_if_lt (q := 4) (t := 21) rfl rfl rfl (fun h1 => ?_) (fun h1 => ?_)
  · refine R_sipush (q := 24) (v := (-1000)) rfl rfl (by decide) ?_
    refine R_ireturn rfl rfl ?_
    refine ⟨congrArg some (congrArg Value.int ?_), rfl⟩
    first | exact (if_pos (by (try simp only [i_lt, i_le, i_eq, i_0, ik_0, ik_1, ik_2, ik_3, ik_4, ik_5, ik_6, ik_7, ik_8, ik_9, ik_10, ik_11, ik_12, ik_13, ik_14, ik_15, ik_16, ik_17, ik_18, ik_19, ik_20, ik_21, ik_22, ik_23, ik_24, ik_25, ik_26, ik_27, ik_28, ik_29, ik_30, ik_31, ik_32, ik_33, ik_34, ik_35, ik_36, ik_127, ik_128, ik_200, ik_201, ik_255, ik_256, ik_272, ik_289, ik_400, ik_512] at *) <;> omega)).symm | exact (if_neg (by (try simp only [i_lt, i_le, i_eq, i_0, ik_0, ik_1, ik_2, ik_3, ik_4, ik_5, ik_6, ik_7, ik_8, ik_9, ik_10, ik_11, ik_12, ik_13, ik_14, ik_15, ik_16, ik_17, ik_18, ik_19, ik_20, ik_21, ik_22, ik_23, ik_24, ik_25, ik_26, ik_27, ik_28, ik_29, ik_30, ik_31, ik_32, ik_33, ik_34, ik_35, ik_36, ik_127, ik_128, ik_200, ik_201, ik_255, ik_256, ik_272, ik_289, ik_400, ik_512] at *) <;> omega)).symm
  · refine R_iload_n (q := 5) rfl rfl rfl ?_
    refine R_aload_n (q := 6) rfl rfl rfl ?_
    refine R_getf (q := 9) rfl rfl rfl (by first | assumption | exact mm_pe | (rw [mm_pn (by omega)]; first | assumption | exact mm_pe | (rw [mm_pn (by omega)]; first | assumption | exact mm_pe | (rw [mm_pn (by omega)]; first | assumption | exact mm_pe | (rw [mm_pn (by omega)]; first | assumption | exact mm_pe | (rw [mm_pn (by omega)]; first | assumption | exact mm_pe)))))) rfl ?_
    refine R_icmp_ge (q := 12) (t := 21) rfl rfl rfl (fun h9 => ?_) (fun h9 => ?_)
    · refine R_sipush (q := 24) (v := (-1000)) rfl rfl (by decide) ?_
      refine R_ireturn rfl rfl ?_
      refine ⟨congrArg some (congrArg Value.int ?_), rfl⟩
      first | exact (if_pos (by (try simp only [i_lt, i_le, i_eq, i_0, ik_0, ik_1, ik_2, ik_3, ik_4, ik_5, ik_6, ik_7, ik_8, ik_9, ik_10, ik_11, ik_12, ik_13, ik_14, ik_15, ik_16, ik_17, ik_18, ik_19, ik_20, ik_21, ik_22, ik_23, ik_24, ik_25, ik_26, ik_27, ik_28, ik_29, ik_30, ik_31, ik_32, ik_33, ik_34, ik_35, ik_36, ik_127, ik_128, ik_200, ik_201, ik_255, ik_256, ik_272, ik_289, ik_400, ik_512] at *) <;> omega)).symm | exact (if_neg (by (try simp only [i_lt, i_le, i_eq, i_0, ik_0, ik_1, ik_2, ik_3, ik_4, ik_5, ik_6, ik_7, ik_8, ik_9, ik_10, ik_11, ik_12, ik_13, ik_14, ik_15, ik_16, ik_17, ik_18, ik_19, ik_20, ik_21, ik_22, ik_23, ik_24, ik_25, ik_26, ik_27, ik_28, ik_29, ik_30, ik_31, ik_32, ik_33, ik_34, ik_35, ik_36, ik_127, ik_128, ik_200, ik_201, ik_255, ik_256, ik_272, ik_289, ik_400, ik_512] at *) <;> omega)).symm
    · refine R_iload_n (q := 13) rfl rfl rfl ?_
      refine R_if_lt (q := 16) (t := 21) rfl rfl rfl (fun h13 => ?_) (fun h13 => ?_)
      · refine R_sipush (q := 24) (v := (-1000)) rfl rfl (by decide) ?_
        refine R_ireturn rfl rfl ?_
        refine ⟨congrArg some (congrArg Value.int ?_), rfl⟩
        first | exact (if_pos (by (try simp only [i_lt, i_le, i_eq, i_0, ik_0, ik_1, ik_2, ik_3, ik_4, ik_5, ik_6, ik_7, ik_8, ik_9, ik_10, ik_11, ik_12, ik_13, ik_14, ik_15, ik_16, ik_17, ik_18, ik_19, ik_20, ik_21, ik_22, ik_23, ik_24, ik_25, ik_26, ik_27, ik_28, ik_29, ik_30, ik_31, ik_32, ik_33, ik_34, ik_35, ik_36, ik_127, ik_128, ik_200, ik_201, ik_255, ik_256, ik_272, ik_289, ik_400, ik_512] at *) <;> omega)).symm | exact (if_neg (by (try simp only [i_lt, i_le, i_eq, i_0, ik_0, ik_1, ik_2, ik_3, ik_4, ik_5, ik_6, ik_7, ik_8, ik_9, ik_10, ik_11, ik_12, ik_13, ik_14, ik_15, ik_16, ik_17, ik_18, ik_19, ik_20, ik_21, ik_22, ik_23, ik_24, ik_25, ik_26, ik_27, ik_28, ik_29, ik_30, ik_31, ik_32, ik_33, ik_34, ik_35, ik_36, ik_127, ik_128, ik_200, ik_201, ik_255, ik_256, ik_272, ik_289, ik_400, ik_512] at *) <;> omega)).symm
      · refine R_iload_n (q := 17) rfl rfl rfl ?_
        refine R_iconst (q := 18) (v := nI 4) rfl rfl (by decide) ?_
        refine R_icmp_lt (q := 21) (t := 25) rfl rfl rfl (fun h18 => ?_) (fun h18 => ?_)
        · refine R_aload_n (q := 26) rfl rfl rfl ?_
          refine R_getf (q := 29) rfl rfl rfl (by first | assumption | exact mm_pe | (rw [mm_pn (by omega)]; first | assumption | exact mm_pe | (rw [mm_pn (by omega)]; first | assumption | exact mm_pe | (rw [mm_pn (by omega)]; first | assumption | exact mm_pe | (rw [mm_pn (by omega)]; first | assumption | exact mm_pe | (rw [mm_pn (by omega)]; first | assumption | exact mm_pe)))))) rfl ?_
          refine R_iload_n (q := 30) rfl rfl rfl ?_
          refine R_iaload (q := 31) rfl rfl (by first | assumption | exact mm_pe | (rw [mm_pn (by omega)]; first | assumption | exact mm_pe | (rw [mm_pn (by omega)]; first | assumption | exact mm_pe | (rw [mm_pn (by omega)]; first | assumption | exact mm_pe | (rw [mm_pn (by omega)]; first | assumption | exact mm_pe | (rw [mm_pn (by omega)]; first | assumption | exact mm_pe)))))) (by omega) (vp_in_iff.mpr (by (try simp only [i_lt, i_le, i_eq, i_0, ik_0, ik_1, ik_2, ik_3, ik_4, ik_5, ik_6, ik_7, ik_8, ik_9, ik_10, ik_11, ik_12, ik_13, ik_14, ik_15, ik_16, ik_17, ik_18, ik_19, ik_20, ik_21, ik_22, ik_23, ik_24, ik_25, ik_26, ik_27, ik_28, ik_29, ik_30, ik_31, ik_32, ik_33, ik_34, ik_35, ik_36, ik_127, ik_128, ik_200, ik_201, ik_255, ik_256, ik_272, ik_289, ik_400, ik_512] at *) <;> omega)) ?_
          refine R_iload_n (q := 32) rfl rfl rfl ?_
          refine R_iconst (q := 33) (v := nI 5) rfl rfl (by decide) ?_
          refine R_imul (q := 34) rfl rfl ?_
          refine R_ishr (q := 35) rfl rfl ?_
          refine R_bipush (q := 37) (v := nI 31) rfl rfl (by decide) ?_
          refine R_iand (q := 38) rfl rfl ?_
          refine R_ireturn rfl rfl ?_
          refine ⟨congrArg some (congrArg Value.int ?_), rfl⟩
          first | exact (if_pos (by (try simp only [i_lt, i_le, i_eq, i_0, ik_0, ik_1, ik_2, ik_3, ik_4, ik_5, ik_6, ik_7, ik_8, ik_9, ik_10, ik_11, ik_12, ik_13, ik_14, ik_15, ik_16, ik_17, ik_18, ik_19, ik_20, ik_21, ik_22, ik_23, ik_24, ik_25, ik_26, ik_27, ik_28, ik_29, ik_30, ik_31, ik_32, ik_33, ik_34, ik_35, ik_36, ik_127, ik_128, ik_200, ik_201, ik_255, ik_256, ik_272, ik_289, ik_400, ik_512] at *) <;> omega)).symm | exact (if_neg (by (try simp only [i_lt, i_le, i_eq, i_0, ik_0, ik_1, ik_2, ik_3, ik_4, ik_5, ik_6, ik_7, ik_8, ik_9, ik_10, ik_11, ik_12, ik_13, ik_14, ik_15, ik_16, ik_17, ik_18, ik_19, ik_20, ik_21, ik_22, ik_23, ik_24, ik_25, ik_26, ik_27, ik_28, ik_29, ik_30, ik_31, ik_32, ik_33, ik_34, ik_35, ik_36, ik_127, ik_128, ik_200, ik_201, ik_255, ik_256, ik_272, ik_289, ik_400, ik_512] at *) <;> omega)).symm
        · refine R_sipush (q := 24) (v := (-1000)) rfl rfl (by decide) ?_
          refine R_ireturn rfl rfl ?_
          refine ⟨congrArg some (congrArg Value.int ?_), rfl⟩
          first | exact (if_pos (by (try simp only [i_lt, i_le, i_eq, i_0, ik_0, ik_1, ik_2, ik_3, ik_4, ik_5, ik_6, ik_7, ik_8, ik_9, ik_10, ik_11, ik_12, ik_13, ik_14, ik_15, ik_16, ik_17, ik_18, ik_19, ik_20, ik_21, ik_22, ik_23, ik_24, ik_25, ik_26, ik_27, ik_28, ik_29, ik_30, ik_31, ik_32, ik_33, ik_34, ik_35, ik_36, ik_127, ik_128, ik_200, ik_201, ik_255, ik_256, ik_272, ik_289, ik_400, ik_512] at *) <;> omega)).symm | exact (if_neg (by (try simp only [i_lt, i_le, i_eq, i_0, ik_0, ik_1, ik_2, ik_3, ik_4, ik_5, ik_6, ik_7, ik_8, ik_9, ik_10, ik_11, ik_12, ik_13, ik_14, ik_15, ik_16, ik_17, ik_18, ik_19, ik_20, ik_21, ik_22, ik_23, ik_24, ik_25, ik_26, ik_27, ik_28, ik_29, ik_30, ik_31, ik_32, ik_33, ik_34, ik_35, ik_36, ik_127, ik_128, ik_200, ik_201, ik_255, ik_256, ik_272, ik_289, ik_400, ik_512] at *) <;> omega)).symm
theorem c92 (h : TP M a n p) : mm_R S d 92 0 (mm_en 92 [.ref a]) [] M (fun v M' => v = none ∧ M' = mm_put M a (.inr (8, [.ref (a + 1), .int (nI 0)]))) := by
  obtain ⟨h1, h2, h3⟩ := h
  show mm_R S d 92 0 [some (.ref a)] [] M _
  refine R_aload_n (q := 1) rfl rfl rfl ?_
  refine R_iconst (q := 2) (v := nI 0) rfl rfl (by decide) ?_
  refine R_putf (q := 5) rfl rfl rfl (by first | assumption | exact mm_pe | (rw [mm_pn (by omega)]; first | assumption | exact mm_pe | (rw [mm_pn (by omega)]; first | assumption | exact mm_pe | (rw [mm_pn (by omega)]; first | assumption | exact mm_pe | (rw [mm_pn (by omega)]; first | assumption | exact mm_pe | (rw [mm_pn (by omega)]; first | assumption | exact mm_pe)))))) (Nat.le_of_ble_eq_true rfl) rfl (fun hf => absurd hf (by decide)) rfl ?_
  dsimp only [List.set]
  refine R_return rfl rfl ?_
  exact ⟨rfl, rfl⟩
theorem c93 (h : TP M a n p) : mm_R S d 93 0 (mm_en 93 [.ref a]) [] M (fun v M' => v = some (.int (nI n)) ∧ M' = M) := by
  obtain ⟨h1, h2, h3⟩ := h
  show mm_R S d 93 0 [some (.ref a)] [] M _
  refine R_aload_n (q := 1) rfl rfl rfl ?_
  refine R_getf (q := 4) rfl rfl rfl (by first | assumption | exact mm_pe | (rw [mm_pn (by omega)]; first | assumption | exact mm_pe | (rw [mm_pn (by omega)]; first | assumption | exact mm_pe | (rw [mm_pn (by omega)]; first | assumption | exact mm_pe | (rw [mm_pn (by omega)]; first | assumption | exact mm_pe | (rw [mm_pn (by omega)]; first | assumption | exact mm_pe)))))) rfl ?_
  refine R_ireturn rfl rfl ?_
  exact ⟨rfl, rfl⟩
theorem c94 {i : Int32} (h : TP M a n p) : mm_R S d 94 0 (mm_en 94 [.ref a, .int i]) [] M (fun v M' => v = some (.int (zb (decide (0 ≤ i.toInt ∧ i.toInt < n)))) ∧ M' = M) := by
  obtain ⟨h1, h2, h3⟩ := h
  have hnn := i_n n (by omega)
  show mm_R S d 94 0 [some (.ref a), some (.int i)] [] M _
  refine R_iload_n (q := 1) rfl rfl rfl ?_
  refine R_if_lt (q := 4) (t := 16) rfl rfl rfl (fun h1 => ?_) (fun h1 => ?_)
  · refine R_iconst (q := 17) (v := nI 0) rfl rfl (by decide) ?_
    refine R_zreturn rfl rfl (by first | exact Or.inl rfl | exact Or.inr rfl | assumption) ?_
    refine ⟨congrArg some (congrArg Value.int ?_), rfl⟩
    first | exact (zb_t (by (try simp only [i_lt, i_le, i_eq, i_0, ik_0, ik_1, ik_2, ik_3, ik_4, ik_5, ik_6, ik_7, ik_8, ik_9, ik_10, ik_11, ik_12, ik_13, ik_14, ik_15, ik_16, ik_17, ik_18, ik_19, ik_20, ik_21, ik_22, ik_23, ik_24, ik_25, ik_26, ik_27, ik_28, ik_29, ik_30, ik_31, ik_32, ik_33, ik_34, ik_35, ik_36, ik_127, ik_128, ik_200, ik_201, ik_255, ik_256, ik_272, ik_289, ik_400, ik_512] at *) <;> omega)).symm | exact (zb_f (by (try simp only [i_lt, i_le, i_eq, i_0, ik_0, ik_1, ik_2, ik_3, ik_4, ik_5, ik_6, ik_7, ik_8, ik_9, ik_10, ik_11, ik_12, ik_13, ik_14, ik_15, ik_16, ik_17, ik_18, ik_19, ik_20, ik_21, ik_22, ik_23, ik_24, ik_25, ik_26, ik_27, ik_28, ik_29, ik_30, ik_31, ik_32, ik_33, ik_34, ik_35, ik_36, ik_127, ik_128, ik_200, ik_201, ik_255, ik_256, ik_272, ik_289, ik_400, ik_512] at *) <;> omega)).symm
  · refine R_iload_n (q := 5) rfl rfl rfl ?_
    refine R_aload_n (q := 6) rfl rfl rfl ?_
    refine R_getf (q := 9) rfl rfl rfl (by first | assumption | exact mm_pe | (rw [mm_pn (by omega)]; first | assumption | exact mm_pe | (rw [mm_pn (by omega)]; first | assumption | exact mm_pe | (rw [mm_pn (by omega)]; first | assumption | exact mm_pe | (rw [mm_pn (by omega)]; first | assumption | exact mm_pe | (rw [mm_pn (by omega)]; first | assumption | exact mm_pe)))))) rfl ?_
    refine R_icmp_ge (q := 12) (t := 16) rfl rfl rfl (fun h9 => ?_) (fun h9 => ?_)
    · refine R_iconst (q := 17) (v := nI 0) rfl rfl (by decide) ?_
      refine R_zreturn rfl rfl (by first | exact Or.inl rfl | exact Or.inr rfl | assumption) ?_
      refine ⟨congrArg some (congrArg Value.int ?_), rfl⟩
      first | exact (zb_t (by (try simp only [i_lt, i_le, i_eq, i_0, ik_0, ik_1, ik_2, ik_3, ik_4, ik_5, ik_6, ik_7, ik_8, ik_9, ik_10, ik_11, ik_12, ik_13, ik_14, ik_15, ik_16, ik_17, ik_18, ik_19, ik_20, ik_21, ik_22, ik_23, ik_24, ik_25, ik_26, ik_27, ik_28, ik_29, ik_30, ik_31, ik_32, ik_33, ik_34, ik_35, ik_36, ik_127, ik_128, ik_200, ik_201, ik_255, ik_256, ik_272, ik_289, ik_400, ik_512] at *) <;> omega)).symm | exact (zb_f (by (try simp only [i_lt, i_le, i_eq, i_0, ik_0, ik_1, ik_2, ik_3, ik_4, ik_5, ik_6, ik_7, ik_8, ik_9, ik_10, ik_11, ik_12, ik_13, ik_14, ik_15, ik_16, ik_17, ik_18, ik_19, ik_20, ik_21, ik_22, ik_23, ik_24, ik_25, ik_26, ik_27, ik_28, ik_29, ik_30, ik_31, ik_32, ik_33, ik_34, ik_35, ik_36, ik_127, ik_128, ik_200, ik_201, ik_255, ik_256, ik_272, ik_289, ik_400, ik_512] at *) <;> omega)).symm
    · refine R_iconst (q := 13) (v := nI 1) rfl rfl (by decide) ?_
      refine R_goto (t := 17) rfl rfl ?_
      refine R_zreturn rfl rfl (by first | exact Or.inl rfl | exact Or.inr rfl | assumption) ?_
      refine ⟨congrArg some (congrArg Value.int ?_), rfl⟩
      first | exact (zb_t (by (try simp only [i_lt, i_le, i_eq, i_0, ik_0, ik_1, ik_2, ik_3, ik_4, ik_5, ik_6, ik_7, ik_8, ik_9, ik_10, ik_11, ik_12, ik_13, ik_14, ik_15, ik_16, ik_17, ik_18, ik_19, ik_20, ik_21, ik_22, ik_23, ik_24, ik_25, ik_26, ik_27, ik_28, ik_29, ik_30, ik_31, ik_32, ik_33, ik_34, ik_35, ik_36, ik_127, ik_128, ik_200, ik_201, ik_255, ik_256, ik_272, ik_289, ik_400, ik_512] at *) <;> omega)).symm | exact (zb_f (by (try simp only [i_lt, i_le, i_eq, i_0, ik_0, ik_1, ik_2, ik_3, ik_4, ik_5, ik_6, ik_7, ik_8, ik_9, ik_10, ik_11, ik_12, ik_13, ik_14, ik_15, ik_16, ik_17, ik_18, ik_19, ik_20, ik_21, ik_22, ik_23, ik_24, ik_25, ik_26, ik_27, ik_28, ik_29, ik_30, ik_31, ik_32, ik_33, ik_34, ik_35, ik_36, ik_127, ik_128, ik_200, ik_201, ik_255, ik_256, ik_272, ik_289, ik_400, ik_512] at *) <;> omega)).symm
theorem c95 {i : Int32} (h : TP M a n p) : mm_R S (d + 1) 95 0 (mm_en 95 [.ref a, .int i]) [] M (fun v M' => v = some (.int (if 0 ≤ i.toInt ∧ i.toInt < n then p i.toNatClampNeg else nI 0)) ∧ M' = M) := by
  have hh := h
  obtain ⟨h1, h2, h3⟩ := h
  show mm_R S (d + 1) 95 0 [some (.ref a), some (.int i)] [] M _
  refine R_aload_n (q := 1) rfl rfl rfl ?_
  refine R_iload_n (q := 2) rfl rfl rfl ?_
  refine R_callv1 (q := 5) rfl rfl rfl rfl (by first | assumption | exact mm_pe | (rw [mm_pn (by omega)]; first | assumption | exact mm_pe | (rw [mm_pn (by omega)]; first | assumption | exact mm_pe | (rw [mm_pn (by omega)]; first | assumption | exact mm_pe | (rw [mm_pn (by omega)]; first | assumption | exact mm_pe | (rw [mm_pn (by omega)]; first | assumption | exact mm_pe)))))) (Nat.le_of_ble_eq_true rfl) rfl ?_
  refine R_mono (c94 hh) (fun v2 M2 hr2 => ?_)
  obtain ⟨rfl, hm2⟩ := hr2
  rw [hm2]
  dsimp only [Option.toList, List.cons_append, List.nil_append]
  refine R_if_eq (q := 8) (t := 17) rfl rfl rfl (fun h5 => ?_) (fun h5 => ?_)
  · have hc := of_decide_eq_false (zb_eq0.mp h5)
    refine R_iconst (q := 18) (v := nI 0) rfl rfl (by decide) ?_
    refine R_ireturn rfl rfl ?_
    refine ⟨congrArg some (congrArg Value.int ?_), rfl⟩
    first | exact (if_pos hc).symm | exact (if_neg hc).symm
  · have hc := of_decide_eq_true (zb_ne0.mp h5)
    refine R_aload_n (q := 9) rfl rfl rfl ?_
    refine R_getf (q := 12) rfl rfl rfl (by first | assumption | exact mm_pe | (rw [mm_pn (by omega)]; first | assumption | exact mm_pe | (rw [mm_pn (by omega)]; first | assumption | exact mm_pe | (rw [mm_pn (by omega)]; first | assumption | exact mm_pe | (rw [mm_pn (by omega)]; first | assumption | exact mm_pe | (rw [mm_pn (by omega)]; first | assumption | exact mm_pe)))))) rfl ?_
    refine R_iload_n (q := 13) rfl rfl rfl ?_
    refine R_iaload (q := 14) rfl rfl (by first | assumption | exact mm_pe | (rw [mm_pn (by omega)]; first | assumption | exact mm_pe | (rw [mm_pn (by omega)]; first | assumption | exact mm_pe | (rw [mm_pn (by omega)]; first | assumption | exact mm_pe | (rw [mm_pn (by omega)]; first | assumption | exact mm_pe | (rw [mm_pn (by omega)]; first | assumption | exact mm_pe)))))) (by omega) (vp_in_iff.mpr (by omega)) ?_
    refine R_goto (t := 18) rfl rfl ?_
    refine R_ireturn rfl rfl ?_
    refine ⟨congrArg some (congrArg Value.int ?_), rfl⟩
    first | exact (if_pos hc).symm | exact (if_neg hc).symm
theorem c96_full {x : Int32} (h : TP M a n p) (hn : n = 400) : mm_R S d 96 0 (mm_en 96 [.ref a, .int x]) [] M (fun v M' => v = some (.int (nI 0)) ∧ M' = M) := by
  obtain ⟨h1, h2, h3⟩ := h
  subst hn
  show mm_R S d 96 0 [some (.ref a), some (.int x)] [] M _
  refine R_aload_n (q := 1) rfl rfl rfl ?_
  refine R_getf (q := 4) rfl rfl rfl (by first | assumption | exact mm_pe | (rw [mm_pn (by omega)]; first | assumption | exact mm_pe | (rw [mm_pn (by omega)]; first | assumption | exact mm_pe | (rw [mm_pn (by omega)]; first | assumption | exact mm_pe | (rw [mm_pn (by omega)]; first | assumption | exact mm_pe | (rw [mm_pn (by omega)]; first | assumption | exact mm_pe)))))) rfl ?_
  refine R_sipush (q := 7) (v := nI 400) rfl rfl (by decide) ?_
  refine R_icmp_lt (q := 10) (t := 12) rfl rfl rfl (fun h7 => absurd h7 (by decide)) (fun h7 => ?_)
  refine R_iconst (q := 11) (v := nI 0) rfl rfl (by decide) ?_
  refine R_zreturn rfl rfl (by first | exact Or.inl rfl | exact Or.inr rfl | assumption) ?_
  exact ⟨rfl, rfl⟩
theorem c96 {x : Int32} (h : TP M a n p) (hn : n < 400) : mm_R S d 96 0 (mm_en 96 [.ref a, .int x]) [] M (fun v M' => v = some (.int (nI 1)) ∧ M' = mm_put (mm_put M (a + 1) (.inl (0, 400, .inl (upd p n x)))) a (.inr (8, [.ref (a + 1), .int (nI (n + 1))]))) := by
  obtain ⟨h1, h2, h3⟩ := h
  show mm_R S d 96 0 [some (.ref a), some (.int x)] [] M _
  refine R_aload_n (q := 1) rfl rfl rfl ?_
  refine R_getf (q := 4) rfl rfl rfl (by first | assumption | exact mm_pe | (rw [mm_pn (by omega)]; first | assumption | exact mm_pe | (rw [mm_pn (by omega)]; first | assumption | exact mm_pe | (rw [mm_pn (by omega)]; first | assumption | exact mm_pe | (rw [mm_pn (by omega)]; first | assumption | exact mm_pe | (rw [mm_pn (by omega)]; first | assumption | exact mm_pe)))))) rfl ?_
  refine R_sipush (q := 7) (v := nI 400) rfl rfl (by decide) ?_
  refine R_icmp_lt (q := 10) (t := 12) rfl rfl rfl (fun h7 => ?_) (fun h7 => absurd (nI_lt hn (by decide)) h7)
  refine R_aload_n (q := 13) rfl rfl rfl ?_
  refine R_getf (q := 16) rfl rfl rfl (by first | assumption | exact mm_pe | (rw [mm_pn (by omega)]; first | assumption | exact mm_pe | (rw [mm_pn (by omega)]; first | assumption | exact mm_pe | (rw [mm_pn (by omega)]; first | assumption | exact mm_pe | (rw [mm_pn (by omega)]; first | assumption | exact mm_pe | (rw [mm_pn (by omega)]; first | assumption | exact mm_pe)))))) rfl ?_
  refine R_aload_n (q := 17) rfl rfl rfl ?_
  refine R_getf (q := 20) rfl rfl rfl (by first | assumption | exact mm_pe | (rw [mm_pn (by omega)]; first | assumption | exact mm_pe | (rw [mm_pn (by omega)]; first | assumption | exact mm_pe | (rw [mm_pn (by omega)]; first | assumption | exact mm_pe | (rw [mm_pn (by omega)]; first | assumption | exact mm_pe | (rw [mm_pn (by omega)]; first | assumption | exact mm_pe)))))) rfl ?_
  refine R_iload_n (q := 21) rfl rfl rfl ?_
  refine R_iastore (q := 22) rfl rfl (by first | assumption | exact mm_pe | (rw [mm_pn (by omega)]; first | assumption | exact mm_pe | (rw [mm_pn (by omega)]; first | assumption | exact mm_pe | (rw [mm_pn (by omega)]; first | assumption | exact mm_pe | (rw [mm_pn (by omega)]; first | assumption | exact mm_pe | (rw [mm_pn (by omega)]; first | assumption | exact mm_pe)))))) (by first | assumption | exact in_nI (by omega) (by decide)) ?_
  rw [cl_nI (by omega)]
  refine R_aload_n (q := 23) rfl rfl rfl ?_
  first | refine R_dupa (q := 24) rfl rfl ?_ | refine R_dupi (q := 24) rfl rfl ?_
  refine R_getf (q := 27) rfl rfl rfl (by first | assumption | exact mm_pe | (rw [mm_pn (by omega)]; first | assumption | exact mm_pe | (rw [mm_pn (by omega)]; first | assumption | exact mm_pe | (rw [mm_pn (by omega)]; first | assumption | exact mm_pe | (rw [mm_pn (by omega)]; first | assumption | exact mm_pe | (rw [mm_pn (by omega)]; first | assumption | exact mm_pe)))))) rfl ?_
  refine R_iconst (q := 28) (v := nI 1) rfl rfl (by decide) ?_
  refine R_iadd (q := 29) rfl rfl ?_
  rw [nI_add]
  refine R_putf (q := 32) rfl rfl rfl (by first | assumption | exact mm_pe | (rw [mm_pn (by omega)]; first | assumption | exact mm_pe | (rw [mm_pn (by omega)]; first | assumption | exact mm_pe | (rw [mm_pn (by omega)]; first | assumption | exact mm_pe | (rw [mm_pn (by omega)]; first | assumption | exact mm_pe | (rw [mm_pn (by omega)]; first | assumption | exact mm_pe)))))) (Nat.le_of_ble_eq_true rfl) rfl (fun hf => absurd hf (by decide)) rfl ?_
  dsimp only [List.set]
  refine R_iconst (q := 33) (v := nI 1) rfl rfl (by decide) ?_
  refine R_zreturn rfl rfl (by first | exact Or.inl rfl | exact Or.inr rfl | assumption) ?_
  exact ⟨rfl, rfl⟩
theorem c97 (h : TP M a n p) (hb : TP M b n2 p2) (hab : a + 1 < b ∨ b + 1 < a) : mm_R S d 97 0 (mm_en 97 [.ref a, .ref b]) [] M (fun v M' => v = none ∧ M' = (mm_put (mm_put M a (.inr (8, [.ref (a + 1), .int (nI n2)]))) (a + 1) (.inl (0, 400, .inl (ifl p2 p n2))))) := by
  obtain ⟨h1, h2, h3⟩ := h
  obtain ⟨b1, b2, b3⟩ := hb
  show mm_R S d 97 0 [some (.ref a), some (.ref b), none] [] M _
  refine R_aload_n (q := 1) rfl rfl rfl ?_
  refine R_aload_n (q := 2) rfl rfl rfl ?_
  refine R_getf (q := 5) rfl rfl rfl (by first | assumption | exact mm_pe | (rw [mm_pn (by omega)]; first | assumption | exact mm_pe | (rw [mm_pn (by omega)]; first | assumption | exact mm_pe | (rw [mm_pn (by omega)]; first | assumption | exact mm_pe | (rw [mm_pn (by omega)]; first | assumption | exact mm_pe | (rw [mm_pn (by omega)]; first | assumption | exact mm_pe)))))) rfl ?_
  refine R_putf (q := 8) rfl rfl rfl (by first | assumption | exact mm_pe | (rw [mm_pn (by omega)]; first | assumption | exact mm_pe | (rw [mm_pn (by omega)]; first | assumption | exact mm_pe | (rw [mm_pn (by omega)]; first | assumption | exact mm_pe | (rw [mm_pn (by omega)]; first | assumption | exact mm_pe | (rw [mm_pn (by omega)]; first | assumption | exact mm_pe)))))) (Nat.le_of_ble_eq_true rfl) rfl (fun hf => absurd hf (by decide)) rfl ?_
  dsimp only [List.set]
  refine R_iconst (q := 9) (v := nI 0) rfl rfl (by decide) ?_
  refine R_istore_n (q := 10) rfl rfl (Nat.le_of_ble_eq_true rfl) rfl ?_
  dsimp only [List.set]
  refine R_atM (M' := (mm_put (mm_put M a (.inr (8, [.ref (a + 1), .int (nI n2)]))) (a + 1) (.inl (0, 400, .inl (ifl p2 p 0))))) (by rw [ifl_0]; exact mm_pself (by rw [mm_pn (by omega)]; exact h2)) ?_
  refine lpN (fun j => mm_R S d 97 10 [some (.ref a), some (.ref b), some (.int (nI j))] [] (mm_put (mm_put M a (.inr (8, [.ref (a + 1), .int (nI n2)]))) (a + 1) (.inl (0, 400, .inl (ifl p2 p j)))) (fun v M' => v = none ∧ M' = (mm_put (mm_put M a (.inr (8, [.ref (a + 1), .int (nI n2)]))) (a + 1) (.inl (0, 400, .inl (ifl p2 p n2)))))) n2 (fun j hj ih => ?_) ?_ 0 (Nat.zero_le _)
  · have hji := in_nI (n := 400) (show j < 400 by omega) (by decide)
    refine R_iload_n (q := 11) rfl rfl rfl ?_
    refine R_aload_n (q := 12) rfl rfl rfl ?_
    refine R_getf (q := 15) rfl rfl rfl (by first | assumption | exact mm_pe | (rw [mm_pn (by omega)]; first | assumption | exact mm_pe | (rw [mm_pn (by omega)]; first | assumption | exact mm_pe | (rw [mm_pn (by omega)]; first | assumption | exact mm_pe | (rw [mm_pn (by omega)]; first | assumption | exact mm_pe | (rw [mm_pn (by omega)]; first | assumption | exact mm_pe)))))) rfl ?_
    refine R_icmp_ge (q := 18) (t := 36) rfl rfl rfl (fun h15 => absurd h15 (nI_ge hj (by omega))) (fun h15 => ?_)
    refine R_aload_n (q := 19) rfl rfl rfl ?_
    refine R_getf (q := 22) rfl rfl rfl (by first | assumption | exact mm_pe | (rw [mm_pn (by omega)]; first | assumption | exact mm_pe | (rw [mm_pn (by omega)]; first | assumption | exact mm_pe | (rw [mm_pn (by omega)]; first | assumption | exact mm_pe | (rw [mm_pn (by omega)]; first | assumption | exact mm_pe | (rw [mm_pn (by omega)]; first | assumption | exact mm_pe)))))) rfl ?_
    refine R_iload_n (q := 23) rfl rfl rfl ?_
    refine R_aload_n (q := 24) rfl rfl rfl ?_
    refine R_getf (q := 27) rfl rfl rfl (by first | assumption | exact mm_pe | (rw [mm_pn (by omega)]; first | assumption | exact mm_pe | (rw [mm_pn (by omega)]; first | assumption | exact mm_pe | (rw [mm_pn (by omega)]; first | assumption | exact mm_pe | (rw [mm_pn (by omega)]; first | assumption | exact mm_pe | (rw [mm_pn (by omega)]; first | assumption | exact mm_pe)))))) rfl ?_
    refine R_iload_n (q := 28) rfl rfl rfl ?_
    refine R_iaload (q := 29) rfl rfl (by first | assumption | exact mm_pe | (rw [mm_pn (by omega)]; first | assumption | exact mm_pe | (rw [mm_pn (by omega)]; first | assumption | exact mm_pe | (rw [mm_pn (by omega)]; first | assumption | exact mm_pe | (rw [mm_pn (by omega)]; first | assumption | exact mm_pe | (rw [mm_pn (by omega)]; first | assumption | exact mm_pe)))))) (by omega) (by first | assumption | exact in_nI (by omega) (by decide)) ?_
    refine R_iastore (q := 30) rfl rfl (by first | assumption | exact mm_pe | (rw [mm_pn (by omega)]; first | assumption | exact mm_pe | (rw [mm_pn (by omega)]; first | assumption | exact mm_pe | (rw [mm_pn (by omega)]; first | assumption | exact mm_pe | (rw [mm_pn (by omega)]; first | assumption | exact mm_pe | (rw [mm_pn (by omega)]; first | assumption | exact mm_pe)))))) (by first | assumption | exact in_nI (by omega) (by decide)) ?_
    refine R_iinc (q := 33) rfl rfl rfl (nI_i1 j) rfl ?_
    dsimp only [List.set]
    refine R_goto (t := 10) rfl rfl ?_
    refine R_atM ?_ ih
    rw [mm_pp, cl_nI (by omega)]
    exact (congrArg (fun z => mm_put (mm_put M a (.inr (8, [.ref (a + 1), .int (nI n2)]))) (a + 1) (.inl (0, 400, .inl z))) (ifl_s (n := p2))).symm
  · refine R_iload_n (q := 11) rfl rfl rfl ?_
    refine R_aload_n (q := 12) rfl rfl rfl ?_
    refine R_getf (q := 15) rfl rfl rfl (by first | assumption | exact mm_pe | (rw [mm_pn (by omega)]; first | assumption | exact mm_pe | (rw [mm_pn (by omega)]; first | assumption | exact mm_pe | (rw [mm_pn (by omega)]; first | assumption | exact mm_pe | (rw [mm_pn (by omega)]; first | assumption | exact mm_pe | (rw [mm_pn (by omega)]; first | assumption | exact mm_pe)))))) rfl ?_
    refine R_icmp_ge (q := 18) (t := 36) rfl rfl rfl (fun h15 => ?_) (fun h15 => absurd (nI_le (Nat.le_refl _) (by omega)) h15)
    refine R_return rfl rfl ?_
    exact ⟨rfl, rfl⟩
theorem c69 (h : OL M a n px py) : mm_R S d 69 0 (mm_en 69 [.ref a]) [] M (fun v M' => v = none ∧ M' = mm_put M a (.inr (5, [.ref (a + 1), .ref (a + 2), .int (nI 0)]))) := by
  obtain ⟨h1, h2, h3, h4⟩ := h
  show mm_R S d 69 0 [some (.ref a)] [] M _
  refine R_aload_n (q := 1) rfl rfl rfl ?_
  refine R_iconst (q := 2) (v := nI 0) rfl rfl (by decide) ?_
  refine R_putf (q := 5) rfl rfl rfl (by first | assumption | exact mm_pe | (rw [mm_pn (by omega)]; first | assumption | exact mm_pe | (rw [mm_pn (by omega)]; first | assumption | exact mm_pe | (rw [mm_pn (by omega)]; first | assumption | exact mm_pe | (rw [mm_pn (by omega)]; first | assumption | exact mm_pe | (rw [mm_pn (by omega)]; first | assumption | exact mm_pe)))))) (Nat.le_of_ble_eq_true rfl) rfl (fun hf => absurd hf (by decide)) rfl ?_
  dsimp only [List.set]
  refine R_return rfl rfl ?_
  exact ⟨rfl, rfl⟩
def ptok (n : Nat) (x y : Int32) : Prop := n < 24 ∧ (0 ≤ x.toInt ∧ x.toInt ≤ 16) ∧ 0 ≤ y.toInt ∧ y.toInt ≤ 16
theorem c68_no {x y : Int32} (h : OL M a n px py) (hp : ¬ ptok n x y) : mm_R S d 68 0 (mm_en 68 [.ref a, .int x, .int y]) [] M (fun v M' => v = some (.int (nI 0)) ∧ M' = M) := by
  obtain ⟨h1, h2, h3, h4⟩ := h
  have hnn := i_n n (by omega)
  unfold ptok at hp
  show mm_R S d 68 0 [some (.ref a), some (.int x), some (.int y)] [] M _
  refine R_aload_n (q := 1) rfl rfl rfl ?_
  refine R_getf (q := 4) rfl rfl rfl (by first | assumption | exact mm_pe | (rw [mm_pn (by omega)]; first | assumption | exact mm_pe | (rw [mm_pn (by omega)]; first | assumption | exact mm_pe | (rw [mm_pn (by omega)]; first | assumption | exact mm_pe | (rw [mm_pn (by omega)]; first | assumption | exact mm_pe | (rw [mm_pn (by omega)]; first | assumption | exact mm_pe)))))) rfl ?_
  refine R_bipush (q := 6) (v := nI 24) rfl rfl (by decide) ?_
  refine R_icmp_ge (q := 9) (t := 29) rfl rfl rfl (fun h6 => ?_) (fun h6 => ?_)
  · refine R_iconst (q := 30) (v := nI 0) rfl rfl (by decide) ?_
    refine R_zreturn rfl rfl (by first | exact Or.inl rfl | exact Or.inr rfl | assumption) ?_
    exact ⟨rfl, rfl⟩
  · refine R_iload_n (q := 10) rfl rfl rfl ?_
    refine R_if_lt (q := 13) (t := 29) rfl rfl rfl (fun h10 => ?_) (fun h10 => ?_)
    · refine R_iconst (q := 30) (v := nI 0) rfl rfl (by decide) ?_
      refine R_zreturn rfl rfl (by first | exact Or.inl rfl | exact Or.inr rfl | assumption) ?_
      exact ⟨rfl, rfl⟩
    · refine R_iload_n (q := 14) rfl rfl rfl ?_
      refine R_bipush (q := 16) (v := nI 16) rfl rfl (by decide) ?_
      refine R_icmp_gt (q := 19) (t := 29) rfl rfl rfl (fun h16 => ?_) (fun h16 => ?_)
      · refine R_iconst (q := 30) (v := nI 0) rfl rfl (by decide) ?_
        refine R_zreturn rfl rfl (by first | exact Or.inl rfl | exact Or.inr rfl | assumption) ?_
        exact ⟨rfl, rfl⟩
      · refine R_iload_n (q := 20) rfl rfl rfl ?_
        refine R_if_lt (q := 23) (t := 29) rfl rfl rfl (fun h20 => ?_) (fun h20 => ?_)
        · refine R_iconst (q := 30) (v := nI 0) rfl rfl (by decide) ?_
          refine R_zreturn rfl rfl (by first | exact Or.inl rfl | exact Or.inr rfl | assumption) ?_
          exact ⟨rfl, rfl⟩
        · refine R_iload_n (q := 24) rfl rfl rfl ?_
          refine R_bipush (q := 26) (v := nI 16) rfl rfl (by decide) ?_
          refine R_icmp_le (q := 29) (t := 31) rfl rfl rfl (fun h26 => ?_) (fun h26 => ?_)
          · exact absurd (by (try simp only [i_lt, i_le, i_eq, i_0, ik_0, ik_1, ik_2, ik_3, ik_4, ik_5, ik_6, ik_7, ik_8, ik_9, ik_10, ik_11, ik_12, ik_13, ik_14, ik_15, ik_16, ik_17, ik_18, ik_19, ik_20, ik_21, ik_22, ik_23, ik_24, ik_25, ik_26, ik_27, ik_28, ik_29, ik_30, ik_31, ik_32, ik_33, ik_34, ik_35, ik_36, ik_127, ik_128, ik_200, ik_201, ik_255, ik_256, ik_272, ik_289, ik_400, ik_512] at *) <;> omega) hp
          · refine R_iconst (q := 30) (v := nI 0) rfl rfl (by decide) ?_
            refine R_zreturn rfl rfl (by first | exact Or.inl rfl | exact Or.inr rfl | assumption) ?_
            exact ⟨rfl, rfl⟩
theorem c68 {x y : Int32} (h : OL M a n px py) (hp : ptok n x y) : mm_R S d 68 0 (mm_en 68 [.ref a, .int x, .int y]) [] M (fun v M' => v = some (.int (nI 1)) ∧ M' = mm_put (mm_put (mm_put M (a + 1) (.inl (0, 24, .inl (upd px n x)))) (a + 2) (.inl (0, 24, .inl (upd py n y)))) a (.inr (5, [.ref (a + 1), .ref (a + 2), .int (nI (n + 1))]))) := by
  obtain ⟨h1, h2, h3, h4⟩ := h
  have hnn := i_n n (by omega)
  obtain ⟨hp1, hp2, hp3⟩ := hp
  show mm_R S d 68 0 [some (.ref a), some (.int x), some (.int y)] [] M _
  refine R_aload_n (q := 1) rfl rfl rfl ?_
  refine R_getf (q := 4) rfl rfl rfl (by first | assumption | exact mm_pe | (rw [mm_pn (by omega)]; first | assumption | exact mm_pe | (rw [mm_pn (by omega)]; first | assumption | exact mm_pe | (rw [mm_pn (by omega)]; first | assumption | exact mm_pe | (rw [mm_pn (by omega)]; first | assumption | exact mm_pe | (rw [mm_pn (by omega)]; first | assumption | exact mm_pe)))))) rfl ?_
  refine R_bipush (q := 6) (v := nI 24) rfl rfl (by decide) ?_
  refine R_icmp_ge (q := 9) (t := 29) rfl rfl rfl (fun h6 => absurd h6 (nI_ge hp1 (by decide))) (fun h6 => ?_)
  refine R_iload_n (q := 10) rfl rfl rfl ?_
  refine R_if_lt (q := 13) (t := 29) rfl rfl rfl (fun h10 => absurd h10 (by (try simp only [i_lt, i_le, i_eq, i_0, ik_0, ik_1, ik_2, ik_3, ik_4, ik_5, ik_6, ik_7, ik_8, ik_9, ik_10, ik_11, ik_12, ik_13, ik_14, ik_15, ik_16, ik_17, ik_18, ik_19, ik_20, ik_21, ik_22, ik_23, ik_24, ik_25, ik_26, ik_27, ik_28, ik_29, ik_30, ik_31, ik_32, ik_33, ik_34, ik_35, ik_36, ik_127, ik_128, ik_200, ik_201, ik_255, ik_256, ik_272, ik_289, ik_400, ik_512] at *) <;> omega)) (fun h10 => ?_)
  refine R_iload_n (q := 14) rfl rfl rfl ?_
  refine R_bipush (q := 16) (v := nI 16) rfl rfl (by decide) ?_
  refine R_icmp_gt (q := 19) (t := 29) rfl rfl rfl (fun h16 => absurd h16 (by (try simp only [i_lt, i_le, i_eq, i_0, ik_0, ik_1, ik_2, ik_3, ik_4, ik_5, ik_6, ik_7, ik_8, ik_9, ik_10, ik_11, ik_12, ik_13, ik_14, ik_15, ik_16, ik_17, ik_18, ik_19, ik_20, ik_21, ik_22, ik_23, ik_24, ik_25, ik_26, ik_27, ik_28, ik_29, ik_30, ik_31, ik_32, ik_33, ik_34, ik_35, ik_36, ik_127, ik_128, ik_200, ik_201, ik_255, ik_256, ik_272, ik_289, ik_400, ik_512] at *) <;> omega)) (fun h16 => ?_)
  refine R_iload_n (q := 20) rfl rfl rfl ?_
  refine R_if_lt (q := 23) (t := 29) rfl rfl rfl (fun h20 => absurd h20 (by (try simp only [i_lt, i_le, i_eq, i_0, ik_0, ik_1, ik_2, ik_3, ik_4, ik_5, ik_6, ik_7, ik_8, ik_9, ik_10, ik_11, ik_12, ik_13, ik_14, ik_15, ik_16, ik_17, ik_18, ik_19, ik_20, ik_21, ik_22, ik_23, ik_24, ik_25, ik_26, ik_27, ik_28, ik_29, ik_30, ik_31, ik_32, ik_33, ik_34, ik_35, ik_36, ik_127, ik_128, ik_200, ik_201, ik_255, ik_256, ik_272, ik_289, ik_400, ik_512] at *) <;> omega)) (fun h20 => ?_)
  refine R_iload_n (q := 24) rfl rfl rfl ?_
  refine R_bipush (q := 26) (v := nI 16) rfl rfl (by decide) ?_
  refine R_icmp_le (q := 29) (t := 31) rfl rfl rfl (fun h26 => ?_) (fun h26 => absurd (by (try simp only [i_lt, i_le, i_eq, i_0, ik_0, ik_1, ik_2, ik_3, ik_4, ik_5, ik_6, ik_7, ik_8, ik_9, ik_10, ik_11, ik_12, ik_13, ik_14, ik_15, ik_16, ik_17, ik_18, ik_19, ik_20, ik_21, ik_22, ik_23, ik_24, ik_25, ik_26, ik_27, ik_28, ik_29, ik_30, ik_31, ik_32, ik_33, ik_34, ik_35, ik_36, ik_127, ik_128, ik_200, ik_201, ik_255, ik_256, ik_272, ik_289, ik_400, ik_512] at *) <;> omega) h26)
  refine R_aload_n (q := 32) rfl rfl rfl ?_
  refine R_getf (q := 35) rfl rfl rfl (by first | assumption | exact mm_pe | (rw [mm_pn (by omega)]; first | assumption | exact mm_pe | (rw [mm_pn (by omega)]; first | assumption | exact mm_pe | (rw [mm_pn (by omega)]; first | assumption | exact mm_pe | (rw [mm_pn (by omega)]; first | assumption | exact mm_pe | (rw [mm_pn (by omega)]; first | assumption | exact mm_pe)))))) rfl ?_
  refine R_aload_n (q := 36) rfl rfl rfl ?_
  refine R_getf (q := 39) rfl rfl rfl (by first | assumption | exact mm_pe | (rw [mm_pn (by omega)]; first | assumption | exact mm_pe | (rw [mm_pn (by omega)]; first | assumption | exact mm_pe | (rw [mm_pn (by omega)]; first | assumption | exact mm_pe | (rw [mm_pn (by omega)]; first | assumption | exact mm_pe | (rw [mm_pn (by omega)]; first | assumption | exact mm_pe)))))) rfl ?_
  refine R_iload_n (q := 40) rfl rfl rfl ?_
  refine R_iastore (q := 41) rfl rfl (by first | assumption | exact mm_pe | (rw [mm_pn (by omega)]; first | assumption | exact mm_pe | (rw [mm_pn (by omega)]; first | assumption | exact mm_pe | (rw [mm_pn (by omega)]; first | assumption | exact mm_pe | (rw [mm_pn (by omega)]; first | assumption | exact mm_pe | (rw [mm_pn (by omega)]; first | assumption | exact mm_pe)))))) (by first | assumption | exact in_nI (by omega) (by decide)) ?_
  rw [cl_nI (by omega)]
  refine R_aload_n (q := 42) rfl rfl rfl ?_
  refine R_getf (q := 45) rfl rfl rfl (by first | assumption | exact mm_pe | (rw [mm_pn (by omega)]; first | assumption | exact mm_pe | (rw [mm_pn (by omega)]; first | assumption | exact mm_pe | (rw [mm_pn (by omega)]; first | assumption | exact mm_pe | (rw [mm_pn (by omega)]; first | assumption | exact mm_pe | (rw [mm_pn (by omega)]; first | assumption | exact mm_pe)))))) rfl ?_
  refine R_aload_n (q := 46) rfl rfl rfl ?_
  refine R_getf (q := 49) rfl rfl rfl (by first | assumption | exact mm_pe | (rw [mm_pn (by omega)]; first | assumption | exact mm_pe | (rw [mm_pn (by omega)]; first | assumption | exact mm_pe | (rw [mm_pn (by omega)]; first | assumption | exact mm_pe | (rw [mm_pn (by omega)]; first | assumption | exact mm_pe | (rw [mm_pn (by omega)]; first | assumption | exact mm_pe)))))) rfl ?_
  refine R_iload_n (q := 50) rfl rfl rfl ?_
  refine R_iastore (q := 51) rfl rfl (by first | assumption | exact mm_pe | (rw [mm_pn (by omega)]; first | assumption | exact mm_pe | (rw [mm_pn (by omega)]; first | assumption | exact mm_pe | (rw [mm_pn (by omega)]; first | assumption | exact mm_pe | (rw [mm_pn (by omega)]; first | assumption | exact mm_pe | (rw [mm_pn (by omega)]; first | assumption | exact mm_pe)))))) (by first | assumption | exact in_nI (by omega) (by decide)) ?_
  rw [cl_nI (by omega)]
  refine R_aload_n (q := 52) rfl rfl rfl ?_
  first | refine R_dupa (q := 53) rfl rfl ?_ | refine R_dupi (q := 53) rfl rfl ?_
  refine R_getf (q := 56) rfl rfl rfl (by first | assumption | exact mm_pe | (rw [mm_pn (by omega)]; first | assumption | exact mm_pe | (rw [mm_pn (by omega)]; first | assumption | exact mm_pe | (rw [mm_pn (by omega)]; first | assumption | exact mm_pe | (rw [mm_pn (by omega)]; first | assumption | exact mm_pe | (rw [mm_pn (by omega)]; first | assumption | exact mm_pe)))))) rfl ?_
  refine R_iconst (q := 57) (v := nI 1) rfl rfl (by decide) ?_
  refine R_iadd (q := 58) rfl rfl ?_
  rw [nI_add]
  refine R_putf (q := 61) rfl rfl rfl (by first | assumption | exact mm_pe | (rw [mm_pn (by omega)]; first | assumption | exact mm_pe | (rw [mm_pn (by omega)]; first | assumption | exact mm_pe | (rw [mm_pn (by omega)]; first | assumption | exact mm_pe | (rw [mm_pn (by omega)]; first | assumption | exact mm_pe | (rw [mm_pn (by omega)]; first | assumption | exact mm_pe)))))) (Nat.le_of_ble_eq_true rfl) rfl (fun hf => absurd hf (by decide)) rfl ?_
  dsimp only [List.set]
  refine R_iconst (q := 62) (v := nI 1) rfl rfl (by decide) ?_
  refine R_zreturn rfl rfl (by first | exact Or.inl rfl | exact Or.inr rfl | assumption) ?_
  exact ⟨rfl, rfl⟩
def aft (n j : Nat) : Nat := if j + 1 < n then j + 1 else 0
theorem c72 {j : Nat} (h : OL M a n px py) (hj : j < 24) : mm_R S d 72 0 (mm_en 72 [.ref a, .int (nI j)]) [] M (fun v M' => v = some (.int (nI (aft n j))) ∧ M' = M) := by
  obtain ⟨h1, h2, h3, h4⟩ := h
  unfold aft
  show mm_R S d 72 0 [some (.ref a), some (.int (nI j))] [] M _
  refine R_iload_n (q := 1) rfl rfl rfl ?_
  refine R_iconst (q := 2) (v := nI 1) rfl rfl (by decide) ?_
  refine R_iadd (q := 3) rfl rfl ?_
  rw [nI_add]
  refine R_aload_n (q := 4) rfl rfl rfl ?_
  refine R_getf (q := 7) rfl rfl rfl (by first | assumption | exact mm_pe | (rw [mm_pn (by omega)]; first | assumption | exact mm_pe | (rw [mm_pn (by omega)]; first | assumption | exact mm_pe | (rw [mm_pn (by omega)]; first | assumption | exact mm_pe | (rw [mm_pn (by omega)]; first | assumption | exact mm_pe | (rw [mm_pn (by omega)]; first | assumption | exact mm_pe)))))) rfl ?_
  refine R_icmp_ge (q := 10) (t := 16) rfl rfl rfl (fun h7 => ?_) (fun h7 => ?_)
  · refine R_iconst (q := 17) (v := nI 0) rfl rfl (by decide) ?_
    refine R_ireturn rfl rfl ?_
    refine ⟨congrArg some (congrArg Value.int ?_), rfl⟩
    by_cases hc : j + 1 < n
    · first | exact (congrArg nI (if_pos hc)).symm | exact absurd h7 (nI_ge hc (by omega))
    · first | exact (congrArg nI (if_neg hc)).symm | exact absurd (nI_le (Nat.not_lt.mp hc) (by omega)) h7
  · refine R_iload_n (q := 11) rfl rfl rfl ?_
    refine R_iconst (q := 12) (v := nI 1) rfl rfl (by decide) ?_
    refine R_iadd (q := 13) rfl rfl ?_
    rw [nI_add]
    refine R_goto (t := 17) rfl rfl ?_
    refine R_ireturn rfl rfl ?_
    refine ⟨congrArg some (congrArg Value.int ?_), rfl⟩
    by_cases hc : j + 1 < n
    · first | exact (congrArg nI (if_pos hc)).symm | exact absurd h7 (nI_ge hc (by omega))
    · first | exact (congrArg nI (if_neg hc)).symm | exact absurd (nI_le (Nat.not_lt.mp hc) (by omega)) h7
theorem c73 {j : Nat} (h : OL M a n px py) (hj : j < n) : mm_R S (d + 1) 73 0 (mm_en 73 [.ref a, .int (nI j)]) [] M (fun v M' => v = some (.int (zb (decide (¬ px j = px (aft n j))))) ∧ M' = M) := by
  have hh := h
  obtain ⟨h1, h2, h3, h4⟩ := h
  have haf : aft n j < 24 := by unfold aft; split <;> omega
  show mm_R S (d + 1) 73 0 [some (.ref a), some (.int (nI j))] [] M _
  refine R_aload_n (q := 1) rfl rfl rfl ?_
  refine R_getf (q := 4) rfl rfl rfl (by first | assumption | exact mm_pe | (rw [mm_pn (by omega)]; first | assumption | exact mm_pe | (rw [mm_pn (by omega)]; first | assumption | exact mm_pe | (rw [mm_pn (by omega)]; first | assumption | exact mm_pe | (rw [mm_pn (by omega)]; first | assumption | exact mm_pe | (rw [mm_pn (by omega)]; first | assumption | exact mm_pe)))))) rfl ?_
  refine R_iload_n (q := 5) rfl rfl rfl ?_
  refine R_iaload (q := 6) rfl rfl (by first | assumption | exact mm_pe | (rw [mm_pn (by omega)]; first | assumption | exact mm_pe | (rw [mm_pn (by omega)]; first | assumption | exact mm_pe | (rw [mm_pn (by omega)]; first | assumption | exact mm_pe | (rw [mm_pn (by omega)]; first | assumption | exact mm_pe | (rw [mm_pn (by omega)]; first | assumption | exact mm_pe)))))) (by omega) (by first | assumption | exact in_nI (by omega) (by decide)) ?_
  refine R_aload_n (q := 7) rfl rfl rfl ?_
  refine R_getf (q := 10) rfl rfl rfl (by first | assumption | exact mm_pe | (rw [mm_pn (by omega)]; first | assumption | exact mm_pe | (rw [mm_pn (by omega)]; first | assumption | exact mm_pe | (rw [mm_pn (by omega)]; first | assumption | exact mm_pe | (rw [mm_pn (by omega)]; first | assumption | exact mm_pe | (rw [mm_pn (by omega)]; first | assumption | exact mm_pe)))))) rfl ?_
  refine R_aload_n (q := 11) rfl rfl rfl ?_
  refine R_iload_n (q := 12) rfl rfl rfl ?_
  refine R_callv1 (q := 15) rfl rfl rfl rfl (by first | assumption | exact mm_pe | (rw [mm_pn (by omega)]; first | assumption | exact mm_pe | (rw [mm_pn (by omega)]; first | assumption | exact mm_pe | (rw [mm_pn (by omega)]; first | assumption | exact mm_pe | (rw [mm_pn (by omega)]; first | assumption | exact mm_pe | (rw [mm_pn (by omega)]; first | assumption | exact mm_pe)))))) (Nat.le_of_ble_eq_true rfl) rfl ?_
  refine R_mono (c72 hh (by omega)) (fun v12 M12 hr12 => ?_)
  obtain ⟨rfl, hm12⟩ := hr12
  rw [hm12]
  dsimp only [Option.toList, List.cons_append, List.nil_append]
  refine R_iaload (q := 16) rfl rfl (by first | assumption | exact mm_pe | (rw [mm_pn (by omega)]; first | assumption | exact mm_pe | (rw [mm_pn (by omega)]; first | assumption | exact mm_pe | (rw [mm_pn (by omega)]; first | assumption | exact mm_pe | (rw [mm_pn (by omega)]; first | assumption | exact mm_pe | (rw [mm_pn (by omega)]; first | assumption | exact mm_pe)))))) (by omega) (by first | assumption | exact in_nI (by omega) (by decide)) ?_
  rw [cl_nI (by omega), cl_nI (by omega)]
  refine R_icmp_eq (q := 19) (t := 23) rfl rfl rfl (fun h16 => ?_) (fun h16 => ?_)
  · refine R_iconst (q := 24) (v := nI 0) rfl rfl (by decide) ?_
    refine R_zreturn rfl rfl (by first | exact Or.inl rfl | exact Or.inr rfl | assumption) ?_
    refine ⟨congrArg some (congrArg Value.int ?_), rfl⟩
    first | exact (zb_t h16).symm | exact (zb_f (fun q => q h16)).symm
  · refine R_iconst (q := 20) (v := nI 1) rfl rfl (by decide) ?_
    refine R_goto (t := 24) rfl rfl ?_
    refine R_zreturn rfl rfl (by first | exact Or.inl rfl | exact Or.inr rfl | assumption) ?_
    refine ⟨congrArg some (congrArg Value.int ?_), rfl⟩
    first | exact (zb_t h16).symm | exact (zb_f (fun q => q h16)).symm
theorem c74 {j : Nat} (h : OL M a n px py) (hj : j < n) : mm_R S (d + 1) 74 0 (mm_en 74 [.ref a, .int (nI j)]) [] M (fun v M' => v = some (.int (zb (decide (¬ py j = py (aft n j))))) ∧ M' = M) := by
  have hh := h
  obtain ⟨h1, h2, h3, h4⟩ := h
  have haf : aft n j < 24 := by unfold aft; split <;> omega
  show mm_R S (d + 1) 74 0 [some (.ref a), some (.int (nI j))] [] M _
  refine R_aload_n (q := 1) rfl rfl rfl ?_
  refine R_getf (q := 4) rfl rfl rfl (by first | assumption | exact mm_pe | (rw [mm_pn (by omega)]; first | assumption | exact mm_pe | (rw [mm_pn (by omega)]; first | assumption | exact mm_pe | (rw [mm_pn (by omega)]; first | assumption | exact mm_pe | (rw [mm_pn (by omega)]; first | assumption | exact mm_pe | (rw [mm_pn (by omega)]; first | assumption | exact mm_pe)))))) rfl ?_
  refine R_iload_n (q := 5) rfl rfl rfl ?_
  refine R_iaload (q := 6) rfl rfl (by first | assumption | exact mm_pe | (rw [mm_pn (by omega)]; first | assumption | exact mm_pe | (rw [mm_pn (by omega)]; first | assumption | exact mm_pe | (rw [mm_pn (by omega)]; first | assumption | exact mm_pe | (rw [mm_pn (by omega)]; first | assumption | exact mm_pe | (rw [mm_pn (by omega)]; first | assumption | exact mm_pe)))))) (by omega) (by first | assumption | exact in_nI (by omega) (by decide)) ?_
  refine R_aload_n (q := 7) rfl rfl rfl ?_
  refine R_getf (q := 10) rfl rfl rfl (by first | assumption | exact mm_pe | (rw [mm_pn (by omega)]; first | assumption | exact mm_pe | (rw [mm_pn (by omega)]; first | assumption | exact mm_pe | (rw [mm_pn (by omega)]; first | assumption | exact mm_pe | (rw [mm_pn (by omega)]; first | assumption | exact mm_pe | (rw [mm_pn (by omega)]; first | assumption | exact mm_pe)))))) rfl ?_
  refine R_aload_n (q := 11) rfl rfl rfl ?_
  refine R_iload_n (q := 12) rfl rfl rfl ?_
  refine R_callv1 (q := 15) rfl rfl rfl rfl (by first | assumption | exact mm_pe | (rw [mm_pn (by omega)]; first | assumption | exact mm_pe | (rw [mm_pn (by omega)]; first | assumption | exact mm_pe | (rw [mm_pn (by omega)]; first | assumption | exact mm_pe | (rw [mm_pn (by omega)]; first | assumption | exact mm_pe | (rw [mm_pn (by omega)]; first | assumption | exact mm_pe)))))) (Nat.le_of_ble_eq_true rfl) rfl ?_
  refine R_mono (c72 hh (by omega)) (fun v12 M12 hr12 => ?_)
  obtain ⟨rfl, hm12⟩ := hr12
  rw [hm12]
  dsimp only [Option.toList, List.cons_append, List.nil_append]
  refine R_iaload (q := 16) rfl rfl (by first | assumption | exact mm_pe | (rw [mm_pn (by omega)]; first | assumption | exact mm_pe | (rw [mm_pn (by omega)]; first | assumption | exact mm_pe | (rw [mm_pn (by omega)]; first | assumption | exact mm_pe | (rw [mm_pn (by omega)]; first | assumption | exact mm_pe | (rw [mm_pn (by omega)]; first | assumption | exact mm_pe)))))) (by omega) (by first | assumption | exact in_nI (by omega) (by decide)) ?_
  rw [cl_nI (by omega), cl_nI (by omega)]
  refine R_icmp_eq (q := 19) (t := 23) rfl rfl rfl (fun h16 => ?_) (fun h16 => ?_)
  · refine R_iconst (q := 24) (v := nI 0) rfl rfl (by decide) ?_
    refine R_zreturn rfl rfl (by first | exact Or.inl rfl | exact Or.inr rfl | assumption) ?_
    refine ⟨congrArg some (congrArg Value.int ?_), rfl⟩
    first | exact (zb_t h16).symm | exact (zb_f (fun q => q h16)).symm
  · refine R_iconst (q := 20) (v := nI 1) rfl rfl (by decide) ?_
    refine R_goto (t := 24) rfl rfl ?_
    refine R_zreturn rfl rfl (by first | exact Or.inl rfl | exact Or.inr rfl | assumption) ?_
    refine ⟨congrArg some (congrArg Value.int ?_), rfl⟩
    first | exact (zb_t h16).symm | exact (zb_f (fun q => q h16)).symm
end P18
