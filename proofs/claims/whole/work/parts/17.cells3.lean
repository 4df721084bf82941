section P17
variable {S : mm_S} {d : Nat} {M : mm_M} {a b b2 : Nat} {f g g2 : Nat → Int32}
def cmb (k : Nat) (x y : Int32) : Int32 := match k with
  | 0 => x ||| y
  | 1 => x &&& y
  | 2 => x &&& (y ^^^ (-1))
  | _ => x ^^^ y
theorem c15 {x y : Int32} {k : Nat} (hk : k < 4) : mm_R S d 15 0 (mm_en 15 [.int x, .int y, .int (nI k)]) [] M (fun v M' => v = some (.int (cmb k x y)) ∧ M' = M) := by
  show mm_R S d 15 0 [some (.int x), some (.int y), some (.int (nI k))] [] M _
  match k, hk with
  | 0, _ =>
    refine R_iload_n (q := 1) rfl rfl rfl ?_
    refine R_tsw (t := 28) rfl rfl ?_
    refine R_iload_n (q := 29) rfl rfl rfl ?_
    refine R_iload_n (q := 30) rfl rfl rfl ?_
    refine R_ior (q := 31) rfl rfl ?_
    refine R_ireturn rfl rfl ?_
    exact ⟨rfl, rfl⟩
  | 1, _ =>
    refine R_iload_n (q := 1) rfl rfl rfl ?_
    refine R_tsw (t := 32) rfl rfl ?_
    refine R_iload_n (q := 33) rfl rfl rfl ?_
    refine R_iload_n (q := 34) rfl rfl rfl ?_
    refine R_iand (q := 35) rfl rfl ?_
    refine R_ireturn rfl rfl ?_
    exact ⟨rfl, rfl⟩
  | 2, _ =>
    refine R_iload_n (q := 1) rfl rfl rfl ?_
    refine R_tsw (t := 36) rfl rfl ?_
    refine R_iload_n (q := 37) rfl rfl rfl ?_
    refine R_iload_n (q := 38) rfl rfl rfl ?_
    refine R_iconst (q := 39) (v := (-1)) rfl rfl (by decide) ?_
    refine R_ixor (q := 40) rfl rfl ?_
    refine R_iand (q := 41) rfl rfl ?_
    refine R_ireturn rfl rfl ?_
    exact ⟨rfl, rfl⟩
  | 3, _ =>
    refine R_iload_n (q := 1) rfl rfl rfl ?_
    refine R_tsw (t := 42) rfl rfl ?_
    refine R_iload_n (q := 43) rfl rfl rfl ?_
    refine R_iload_n (q := 44) rfl rfl rfl ?_
    refine R_ixor (q := 45) rfl rfl ?_
    refine R_ireturn rfl rfl ?_
    exact ⟨rfl, rfl⟩
theorem c14 {k : Nat} (hk : k < 4) (ha : CA M a f) (hb : CA M b g) (hb2 : CA M b2 g2) : mm_R S (d + 1) 14 0 (mm_en 14 [.ref a, .ref b, .ref b2, .int (nI k)]) [] M (fun v M' => v = none ∧ M' = mm_put M (a + 1) (ro (ifl (fun i => cmb k (g i) (g2 i)) f 16))) := by
  show mm_R S (d + 1) 14 0 [some (.ref a), some (.ref b), some (.ref b2), some (.int (nI k)), none] [] M _
  refine R_iconst (q := 1) (v := nI 0) rfl rfl (by decide) ?_
  refine R_istore (q := 3) rfl rfl (Nat.le_of_ble_eq_true rfl) rfl ?_
  dsimp only [List.set]
  refine R_atM (M' := mm_put M (a + 1) (ro (ifl (fun i => cmb k (g i) (g2 i)) f 0))) (by rw [ifl_0]; exact mm_pself ha.2) ?_
  refine lpN (fun j => mm_R S (d + 1) 14 3 [some (.ref a), some (.ref b), some (.ref b2), some (.int (nI k)), some (.int (nI j))] [] (mm_put M (a + 1) (ro (ifl (fun i => cmb k (g i) (g2 i)) f j))) (fun v M' => v = none ∧ M' = mm_put M (a + 1) (ro (ifl (fun i => cmb k (g i) (g2 i)) f 16)))) 16 (fun j hj ih => ?_) ?_ 0 (Nat.zero_le _)
  · have hj1 : (mm_put M (a + 1) (ro (ifl (fun i => cmb k (g i) (g2 i)) f j))).1 a = some (.inr (0, [.ref (a + 1)])) := (CA_put ha).1
    have hj2 : (mm_put M (a + 1) (ro (ifl (fun i => cmb k (g i) (g2 i)) f j))).1 (a + 1) = some (ro (ifl (fun i => cmb k (g i) (g2 i)) f j)) := mm_pe
    have hji := in_nI hj (by decide)
    obtain ⟨G, ⟨hg1, hg2⟩, hGj⟩ := CA_loop (n := (fun i => cmb k (g i) (g2 i))) (j := j) ha hb
    obtain ⟨G2, ⟨hq1, hq2⟩, hGj2⟩ := CA_loop (n := (fun i => cmb k (g i) (g2 i))) (j := j) ha hb2
    refine R_iload (q := 5) rfl rfl rfl ?_
    refine R_bipush (q := 7) (v := nI 16) rfl rfl (by decide) ?_
    refine R_icmp_ge (q := 10) (t := 41) rfl rfl rfl (fun h7 => absurd h7 (nI_ge hj (by decide))) (fun h7 => ?_)
    refine R_aload_n (q := 11) rfl rfl rfl ?_
    refine R_getf (q := 14) rfl rfl rfl (by assumption) rfl ?_
    refine R_iload (q := 16) rfl rfl rfl ?_
    refine R_aload_n (q := 17) rfl rfl rfl ?_
    refine R_getf (q := 20) rfl rfl rfl hg1 rfl ?_
    refine R_iload (q := 22) rfl rfl rfl ?_
    refine R_iaload (q := 23) rfl rfl hg2 (by omega) (by assumption) ?_
    refine R_aload_n (q := 24) rfl rfl rfl ?_
    refine R_getf (q := 27) rfl rfl rfl hq1 rfl ?_
    refine R_iload (q := 29) rfl rfl rfl ?_
    refine R_iaload (q := 30) rfl rfl hq2 (by omega) (by assumption) ?_
    refine R_iload_n (q := 31) rfl rfl rfl ?_
    refine R_calls3 (q := 34) rfl rfl rfl rfl (Nat.le_of_ble_eq_true rfl) rfl ?_
    refine R_mono (c15 hk) (fun v31 M31 hr31 => ?_)
    obtain ⟨rfl, hm31⟩ := hr31
    rw [hm31]
    dsimp only [Option.toList, List.cons_append, List.nil_append]
    refine R_iastore (q := 35) rfl rfl (by assumption) (by assumption) ?_
    refine R_iinc (q := 38) rfl rfl rfl (nI_i1 j) rfl ?_
    dsimp only [List.set]
    refine R_goto (t := 3) rfl rfl ?_
    refine R_atM ?_ ih
    rw [mm_pp, cl_nI (by omega), hGj, hGj2]
    exact (congrArg (fun z => mm_put M (a + 1) (ro z)) (ifl_s (n := (fun i => cmb k (g i) (g2 i))))).symm
  · refine R_iload (q := 5) rfl rfl rfl ?_
    refine R_bipush (q := 7) (v := nI 16) rfl rfl (by decide) ?_
    refine R_icmp_ge (q := 10) (t := 41) rfl rfl rfl (fun h7 => ?_) (fun h7 => absurd (nI_le (Nat.le_refl _) (by decide)) h7)
    refine R_return rfl rfl ?_
    exact ⟨rfl, rfl⟩
def gr1 (v : Int32) : Int32 := (v ||| v <<< (nI 1 &&& 31)) ||| v >>> (nI 1 &&& 31)
def grn (f : Nat → Int32) (j : Nat) : Int32 := ((if j = 0 then nI 0 else gr1 (f (j - 1))) ||| gr1 (f j) ||| gr1 (rowv f (nI (j + 1)))) &&& 65535
theorem c16 (ha : CA M a f) : mm_R S (d + 1) 16 0 (mm_en 16 [.ref a]) [] M (fun v M' => v = none ∧ M' = mm_put M (a + 1) (ro (ifl (grn f) f 16))) := by
  show mm_R S (d + 1) 16 0 [some (.ref a), none, none, none, none, none] [] M _
  refine R_iconst (q := 1) (v := nI 0) rfl rfl (by decide) ?_
  refine R_istore_n (q := 2) rfl rfl (Nat.le_of_ble_eq_true rfl) rfl ?_
  dsimp only [List.set]
  refine R_iconst (q := 3) (v := nI 0) rfl rfl (by decide) ?_
  refine R_istore_n (q := 4) rfl rfl (Nat.le_of_ble_eq_true rfl) rfl ?_
  dsimp only [List.set]
  refine R_atM (M' := mm_put M (a + 1) (ro (ifl (grn f) f 0))) (by rw [ifl_0]; exact mm_pself ha.2) ?_
  refine lpN (fun j => ∀ t1 t2 t3 : Option Value, mm_R S (d + 1) 16 4 [some (.ref a), some (.int (if j = 0 then nI 0 else gr1 (f (j - 1)))), some (.int (nI j)), t1, t2, t3] [] (mm_put M (a + 1) (ro (ifl (grn f) f j))) (fun v M' => v = none ∧ M' = mm_put M (a + 1) (ro (ifl (grn f) f 16)))) 16 (fun j hj ih t1 t2 t3 => ?_) (fun t1 t2 t3 => ?_) 0 (Nat.zero_le _) none none none
  · have hca := CA_put (g := ifl (grn f) f j) ha
    have hj1 := hca.1
    have hj2 := hca.2
    have hji := in_nI hj (by decide)
    have hrow : rowv (ifl (grn f) f j) (nI (j + 1)) = rowv f (nI (j + 1)) := by
      by_cases h16 : j + 1 < 16
      · rw [rowv_nI h16, rowv_nI h16, ifl_ge (by omega)]
      · rw [rowv_out (by rw [i_n _ (by omega)]; omega), rowv_out (by rw [i_n _ (by omega)]; omega)]
    refine R_iload_n (q := 5) rfl rfl rfl ?_
    refine R_bipush (q := 7) (v := nI 16) rfl rfl (by decide) ?_
    refine R_icmp_ge (q := 10) (t := 81) rfl rfl rfl (fun h7 => absurd h7 (nI_ge hj (by decide))) (fun h7 => ?_)
    refine R_aload_n (q := 11) rfl rfl rfl ?_
    refine R_getf (q := 14) rfl rfl rfl (by assumption) rfl ?_
    refine R_iload_n (q := 15) rfl rfl rfl ?_
    refine R_iaload (q := 16) rfl rfl (by assumption) (by omega) (by assumption) ?_
    rw [cl_nI (by omega), ifl_ge (Nat.le_refl j)]
    refine R_aload_n (q := 17) rfl rfl rfl ?_
    refine R_getf (q := 20) rfl rfl rfl (by assumption) rfl ?_
    refine R_iload_n (q := 21) rfl rfl rfl ?_
    refine R_iaload (q := 22) rfl rfl (by assumption) (by omega) (by assumption) ?_
    rw [cl_nI (by omega), ifl_ge (Nat.le_refl j)]
    refine R_iconst (q := 23) (v := nI 1) rfl rfl (by decide) ?_
    refine R_ishl (q := 24) rfl rfl ?_
    refine R_ior (q := 25) rfl rfl ?_
    refine R_aload_n (q := 26) rfl rfl rfl ?_
    refine R_getf (q := 29) rfl rfl rfl (by assumption) rfl ?_
    refine R_iload_n (q := 30) rfl rfl rfl ?_
    refine R_iaload (q := 31) rfl rfl (by assumption) (by omega) (by assumption) ?_
    rw [cl_nI (by omega), ifl_ge (Nat.le_refl j)]
    refine R_iconst (q := 32) (v := nI 1) rfl rfl (by decide) ?_
    refine R_ishr (q := 33) rfl rfl ?_
    refine R_ior (q := 34) rfl rfl ?_
    refine R_istore_n (q := 35) rfl rfl (Nat.le_of_ble_eq_true rfl) rfl ?_
    dsimp only [List.set]
    refine R_aload_n (q := 36) rfl rfl rfl ?_
    refine R_iload_n (q := 37) rfl rfl rfl ?_
    refine R_iconst (q := 38) (v := nI 1) rfl rfl (by decide) ?_
    refine R_iadd (q := 39) rfl rfl ?_
    rw [nI_add]
    refine R_callv1 (q := 42) rfl rfl rfl rfl (by assumption) (Nat.le_of_ble_eq_true rfl) rfl ?_
    refine R_mono (c2 hca) (fun v39 M39 hr39 => ?_)
    obtain ⟨rfl, hm39⟩ := hr39
    rw [hm39]
    dsimp only [Option.toList, List.cons_append, List.nil_append]
    rw [hrow]
    refine R_istore (q := 44) rfl rfl (Nat.le_of_ble_eq_true rfl) rfl ?_
    dsimp only [List.set]
    refine R_iload (q := 46) rfl rfl rfl ?_
    refine R_iload (q := 48) rfl rfl rfl ?_
    refine R_iconst (q := 49) (v := nI 1) rfl rfl (by decide) ?_
    refine R_ishl (q := 50) rfl rfl ?_
    refine R_ior (q := 51) rfl rfl ?_
    refine R_iload (q := 53) rfl rfl rfl ?_
    refine R_iconst (q := 54) (v := nI 1) rfl rfl (by decide) ?_
    refine R_ishr (q := 55) rfl rfl ?_
    refine R_ior (q := 56) rfl rfl ?_
    refine R_istore (q := 58) rfl rfl (Nat.le_of_ble_eq_true rfl) rfl ?_
    dsimp only [List.set]
    refine R_aload_n (q := 59) rfl rfl rfl ?_
    refine R_getf (q := 62) rfl rfl rfl (by assumption) rfl ?_
    refine R_iload_n (q := 63) rfl rfl rfl ?_
    refine R_iload_n (q := 64) rfl rfl rfl ?_
    refine R_iload_n (q := 65) rfl rfl rfl ?_
    refine R_ior (q := 66) rfl rfl ?_
    refine R_iload (q := 68) rfl rfl rfl ?_
    refine R_ior (q := 69) rfl rfl ?_
    refine R_ldc (q := 71) (v := 65535) rfl rfl rfl ?_
    refine R_iand (q := 72) rfl rfl ?_
    refine R_iastore (q := 73) rfl rfl (by assumption) (by assumption) ?_
    rw [cl_nI (by omega)]
    refine R_iload_n (q := 74) rfl rfl rfl ?_
    refine R_istore_n (q := 75) rfl rfl (Nat.le_of_ble_eq_true rfl) rfl ?_
    dsimp only [List.set]
    refine R_iinc (q := 78) rfl rfl rfl (nI_i1 j) rfl ?_
    dsimp only [List.set]
    refine R_goto (t := 4) rfl rfl ?_
    refine R_atM ?_ (by
      have h := ih (some (.int (gr1 (f j)))) (some (.int (rowv f (nI (j + 1))))) (some (.int (gr1 (rowv f (nI (j + 1))))))
      rw [if_neg (Nat.succ_ne_zero j), Nat.add_sub_cancel] at h
      exact h)
    rw [mm_pp]
    exact (congrArg (fun z => mm_put M (a + 1) (ro z)) (ifl_s (n := (grn f)))).symm
  · refine R_iload_n (q := 5) rfl rfl rfl ?_
    refine R_bipush (q := 7) (v := nI 16) rfl rfl (by decide) ?_
    refine R_icmp_ge (q := 10) (t := 81) rfl rfl rfl (fun h7 => ?_) (fun h7 => absurd (nI_le (Nat.le_refl _) (by decide)) h7)
    refine R_return rfl rfl ?_
    exact ⟨rfl, rfl⟩
def sk1 (v : Int32) : Int32 := (v &&& v <<< (nI 1 &&& 31)) &&& v >>> (nI 1 &&& 31)
def skn (f : Nat → Int32) (j : Nat) : Int32 := ((if j = 0 then nI 0 else sk1 (f (j - 1))) &&& sk1 (f j) &&& sk1 (rowv f (nI (j + 1)))) 
theorem c17 (ha : CA M a f) : mm_R S (d + 1) 17 0 (mm_en 17 [.ref a]) [] M (fun v M' => v = none ∧ M' = mm_put M (a + 1) (ro (ifl (skn f) f 16))) := by
  show mm_R S (d + 1) 17 0 [some (.ref a), none, none, none, none, none] [] M _
  refine R_iconst (q := 1) (v := nI 0) rfl rfl (by decide) ?_
  refine R_istore_n (q := 2) rfl rfl (Nat.le_of_ble_eq_true rfl) rfl ?_
  dsimp only [List.set]
  refine R_iconst (q := 3) (v := nI 0) rfl rfl (by decide) ?_
  refine R_istore_n (q := 4) rfl rfl (Nat.le_of_ble_eq_true rfl) rfl ?_
  dsimp only [List.set]
  refine R_atM (M' := mm_put M (a + 1) (ro (ifl (skn f) f 0))) (by rw [ifl_0]; exact mm_pself ha.2) ?_
  refine lpN (fun j => ∀ t1 t2 t3 : Option Value, mm_R S (d + 1) 17 4 [some (.ref a), some (.int (if j = 0 then nI 0 else sk1 (f (j - 1)))), some (.int (nI j)), t1, t2, t3] [] (mm_put M (a + 1) (ro (ifl (skn f) f j))) (fun v M' => v = none ∧ M' = mm_put M (a + 1) (ro (ifl (skn f) f 16)))) 16 (fun j hj ih t1 t2 t3 => ?_) (fun t1 t2 t3 => ?_) 0 (Nat.zero_le _) none none none
  · have hca := CA_put (g := ifl (skn f) f j) ha
    have hj1 := hca.1
    have hj2 := hca.2
    have hji := in_nI hj (by decide)
    have hrow : rowv (ifl (skn f) f j) (nI (j + 1)) = rowv f (nI (j + 1)) := by
      by_cases h16 : j + 1 < 16
      · rw [rowv_nI h16, rowv_nI h16, ifl_ge (by omega)]
      · rw [rowv_out (by rw [i_n _ (by omega)]; omega), rowv_out (by rw [i_n _ (by omega)]; omega)]
    refine R_iload_n (q := 5) rfl rfl rfl ?_
    refine R_bipush (q := 7) (v := nI 16) rfl rfl (by decide) ?_
    refine R_icmp_ge (q := 10) (t := 78) rfl rfl rfl (fun h7 => absurd h7 (nI_ge hj (by decide))) (fun h7 => ?_)
    refine R_aload_n (q := 11) rfl rfl rfl ?_
    refine R_getf (q := 14) rfl rfl rfl (by assumption) rfl ?_
    refine R_iload_n (q := 15) rfl rfl rfl ?_
    refine R_iaload (q := 16) rfl rfl (by assumption) (by omega) (by assumption) ?_
    rw [cl_nI (by omega), ifl_ge (Nat.le_refl j)]
    refine R_aload_n (q := 17) rfl rfl rfl ?_
    refine R_getf (q := 20) rfl rfl rfl (by assumption) rfl ?_
    refine R_iload_n (q := 21) rfl rfl rfl ?_
    refine R_iaload (q := 22) rfl rfl (by assumption) (by omega) (by assumption) ?_
    rw [cl_nI (by omega), ifl_ge (Nat.le_refl j)]
    refine R_iconst (q := 23) (v := nI 1) rfl rfl (by decide) ?_
    refine R_ishl (q := 24) rfl rfl ?_
    refine R_iand (q := 25) rfl rfl ?_
    refine R_aload_n (q := 26) rfl rfl rfl ?_
    refine R_getf (q := 29) rfl rfl rfl (by assumption) rfl ?_
    refine R_iload_n (q := 30) rfl rfl rfl ?_
    refine R_iaload (q := 31) rfl rfl (by assumption) (by omega) (by assumption) ?_
    rw [cl_nI (by omega), ifl_ge (Nat.le_refl j)]
    refine R_iconst (q := 32) (v := nI 1) rfl rfl (by decide) ?_
    refine R_ishr (q := 33) rfl rfl ?_
    refine R_iand (q := 34) rfl rfl ?_
    refine R_istore_n (q := 35) rfl rfl (Nat.le_of_ble_eq_true rfl) rfl ?_
    dsimp only [List.set]
    refine R_aload_n (q := 36) rfl rfl rfl ?_
    refine R_iload_n (q := 37) rfl rfl rfl ?_
    refine R_iconst (q := 38) (v := nI 1) rfl rfl (by decide) ?_
    refine R_iadd (q := 39) rfl rfl ?_
    rw [nI_add]
    refine R_callv1 (q := 42) rfl rfl rfl rfl (by assumption) (Nat.le_of_ble_eq_true rfl) rfl ?_
    refine R_mono (c2 hca) (fun v39 M39 hr39 => ?_)
    obtain ⟨rfl, hm39⟩ := hr39
    rw [hm39]
    dsimp only [Option.toList, List.cons_append, List.nil_append]
    rw [hrow]
    refine R_istore (q := 44) rfl rfl (Nat.le_of_ble_eq_true rfl) rfl ?_
    dsimp only [List.set]
    refine R_iload (q := 46) rfl rfl rfl ?_
    refine R_iload (q := 48) rfl rfl rfl ?_
    refine R_iconst (q := 49) (v := nI 1) rfl rfl (by decide) ?_
    refine R_ishl (q := 50) rfl rfl ?_
    refine R_iand (q := 51) rfl rfl ?_
    refine R_iload (q := 53) rfl rfl rfl ?_
    refine R_iconst (q := 54) (v := nI 1) rfl rfl (by decide) ?_
    refine R_ishr (q := 55) rfl rfl ?_
    refine R_iand (q := 56) rfl rfl ?_
    refine R_istore (q := 58) rfl rfl (Nat.le_of_ble_eq_true rfl) rfl ?_
    dsimp only [List.set]
    refine R_aload_n (q := 59) rfl rfl rfl ?_
    refine R_getf (q := 62) rfl rfl rfl (by assumption) rfl ?_
    refine R_iload_n (q := 63) rfl rfl rfl ?_
    refine R_iload_n (q := 64) rfl rfl rfl ?_
    refine R_iload_n (q := 65) rfl rfl rfl ?_
    refine R_iand (q := 66) rfl rfl ?_
    refine R_iload (q := 68) rfl rfl rfl ?_
    refine R_iand (q := 69) rfl rfl ?_
    refine R_iastore (q := 70) rfl rfl (by assumption) (by assumption) ?_
    rw [cl_nI (by omega)]
    refine R_iload_n (q := 71) rfl rfl rfl ?_
    refine R_istore_n (q := 72) rfl rfl (Nat.le_of_ble_eq_true rfl) rfl ?_
    dsimp only [List.set]
    refine R_iinc (q := 75) rfl rfl rfl (nI_i1 j) rfl ?_
    dsimp only [List.set]
    refine R_goto (t := 4) rfl rfl ?_
    refine R_atM ?_ (by
      have h := ih (some (.int (sk1 (f j)))) (some (.int (rowv f (nI (j + 1))))) (some (.int (sk1 (rowv f (nI (j + 1))))))
      rw [if_neg (Nat.succ_ne_zero j), Nat.add_sub_cancel] at h
      exact h)
    rw [mm_pp]
    exact (congrArg (fun z => mm_put M (a + 1) (ro z)) (ifl_s (n := (skn f)))).symm
  · refine R_iload_n (q := 5) rfl rfl rfl ?_
    refine R_bipush (q := 7) (v := nI 16) rfl rfl (by decide) ?_
    refine R_icmp_ge (q := 10) (t := 78) rfl rfl rfl (fun h7 => ?_) (fun h7 => absurd (nI_le (Nat.le_refl _) (by decide)) h7)
    refine R_return rfl rfl ?_
    exact ⟨rfl, rfl⟩
end P17
