theorem lpM (W : Nat → Prop) (lo e : Nat) (hs : ∀ j, lo ≤ j → j < e → W (j + 1) → W j) (he : W e) : ∀ j, lo ≤ j → j ≤ e → W j := by
  intro j h0 hj
  obtain ⟨k, rfl⟩ : ∃ k, e = j + k := ⟨e - j, by omega⟩
  clear hj
  induction k generalizing j with
  | zero => exact he
  | succ k ih => exact hs j h0 (by omega) (ih (j + 1) (by omega) (by rw [show j + 1 + k = j + (k + 1) by omega]; exact hs) (by rw [show j + 1 + k = j + (k + 1) by omega]; exact he))
section P16
variable {S : mm_S} {d : Nat} {M : mm_M} {a b : Nat} {f g : Nat → Int32}
/-- the column x as bits, so far -/
def colv (f : Nat → Int32) (x : Nat) : Nat → Int32
  | 0 => nI 0
  | j + 1 => colv f x j ||| (((f j >>> (nI x &&& 31)) &&& nI 1) <<< (nI j &&& 31))
theorem c3 {x : Nat} (ha : CA M a f) : mm_R S d 3 0 (mm_en 3 [.ref a, .int (nI x)]) [] M (fun v M' => v = some (.int (colv f x 16)) ∧ M' = M) := by
  obtain ⟨ha1, ha2⟩ := ha
  show mm_R S d 3 0 [some (.ref a), some (.int (nI x)), none, none] [] M _
  refine R_iconst (q := 1) (v := nI 0) rfl rfl (by decide) ?_
  refine R_istore_n (q := 2) rfl rfl (Nat.le_of_ble_eq_true rfl) rfl ?_
  dsimp only [List.set]
  refine R_iconst (q := 3) (v := nI 0) rfl rfl (by decide) ?_
  refine R_istore_n (q := 4) rfl rfl (Nat.le_of_ble_eq_true rfl) rfl ?_
  dsimp only [List.set]
  refine lpN (fun j => mm_R S d 3 4 [some (.ref a), some (.int (nI x)), some (.int (colv f x j)), some (.int (nI j))] [] M (fun v M' => v = some (.int (colv f x 16)) ∧ M' = M)) 16 (fun j hj ih => ?_) ?_ 0 (Nat.zero_le _)
  · have hji := in_nI hj (by decide)
    refine R_iload_n (q := 5) rfl rfl rfl ?_
    refine R_bipush (q := 7) (v := nI 16) rfl rfl (by decide) ?_
    refine R_icmp_ge (q := 10) (t := 31) rfl rfl rfl (fun h7 => absurd h7 (nI_ge hj (by decide))) (fun h7 => ?_)
    refine R_iload_n (q := 11) rfl rfl rfl ?_
    refine R_aload_n (q := 12) rfl rfl rfl ?_
    refine R_getf (q := 15) rfl rfl rfl (by assumption) rfl ?_
    refine R_iload_n (q := 16) rfl rfl rfl ?_
    refine R_iaload (q := 17) rfl rfl (by assumption) (by omega) (by assumption) ?_
    refine R_iload_n (q := 18) rfl rfl rfl ?_
    refine R_ishr (q := 19) rfl rfl ?_
    refine R_iconst (q := 20) (v := nI 1) rfl rfl (by decide) ?_
    refine R_iand (q := 21) rfl rfl ?_
    refine R_iload_n (q := 22) rfl rfl rfl ?_
    refine R_ishl (q := 23) rfl rfl ?_
    refine R_ior (q := 24) rfl rfl ?_
    refine R_istore_n (q := 25) rfl rfl (Nat.le_of_ble_eq_true rfl) rfl ?_
    dsimp only [List.set]
    refine R_iinc (q := 28) rfl rfl rfl (nI_i1 j) rfl ?_
    dsimp only [List.set]
    refine R_goto (t := 4) rfl rfl ?_
    rw [cl_nI (by omega)]
    exact ih
  · refine R_iload_n (q := 5) rfl rfl rfl ?_
    refine R_bipush (q := 7) (v := nI 16) rfl rfl (by decide) ?_
    refine R_icmp_ge (q := 10) (t := 31) rfl rfl rfl (fun h7 => ?_) (fun h7 => absurd (nI_le (Nat.le_refl _) (by decide)) h7)
    refine R_iload_n (q := 32) rfl rfl rfl ?_
    refine R_ireturn rfl rfl ?_
    exact ⟨rfl, rfl⟩
theorem colv_bt {f : Nat → Int32} {x : Nat} (hx : x < 32) : ∀ j, j ≤ 32 → ∀ i, i < 32 → bt (colv f x j) i = (decide (i < j) && bt (f i) x) := by
  intro j
  induction j with
  | zero => intro _ i hi; rw [show colv f x 0 = nI 0 from rfl]; simp [show bt (nI 0) i = false from b_0 i]
  | succ j ih =>
    intro hj i hi
    rw [show colv f x (j + 1) = colv f x j ||| (((f j >>> (nI x &&& 31)) &&& nI 1) <<< (nI j &&& 31)) from rfl, b_or, ih (by omega) i hi, b_shl j (by omega) _ hi]
    by_cases h1 : j ≤ i
    · rw [b_and, b_sshr x hx _ (by omega), bt_1 _ (by omega)]
      by_cases h2 : i = j
      · subst h2
        simp [hx]
      · have h3 : ¬ i - j = 0 := by omega
        have h4 : ¬ i < j := by omega
        have h5 : ¬ i < j + 1 := by omega
        simp [h3, h4, h5]
    · have h4 : i < j := by omega
      have h5 : i < j + 1 := by omega
      simp [h1, h4, h5]
def bcn (x : Int32) : Int32 :=
  let a := x - ((x.toUInt32 >>> ((nI 1).toUInt32 &&& Int32.toUInt32 31)).toInt32 &&& 1431655765)
  let b := (a &&& 858993459) + ((a.toUInt32 >>> ((nI 2).toUInt32 &&& Int32.toUInt32 31)).toInt32 &&& 858993459)
  let c := (b + (b.toUInt32 >>> ((nI 4).toUInt32 &&& Int32.toUInt32 31)).toInt32) &&& 252645135
  let e := c + (c.toUInt32 >>> ((nI 8).toUInt32 &&& Int32.toUInt32 31)).toInt32
  let h := e + (e.toUInt32 >>> ((nI 16).toUInt32 &&& Int32.toUInt32 31)).toInt32
  h &&& nI 63
theorem c201 {x : Int32} : mm_R S d 201 0 (mm_en 201 [.int x]) [] M (fun v M' => v = some (.int (bcn x)) ∧ M' = M) := by
  show mm_R S d 201 0 [some (.int x)] [] M _
  refine R_iload_n (q := 1) rfl rfl rfl ?_
  refine R_iload_n (q := 2) rfl rfl rfl ?_
  refine R_iconst (q := 3) (v := nI 1) rfl rfl (by decide) ?_
  refine R_iushr (q := 4) rfl rfl ?_
  refine R_ldc_w (q := 7) (v := 1431655765) rfl rfl rfl ?_
  refine R_iand (q := 8) rfl rfl ?_
  refine R_isub (q := 9) rfl rfl ?_
  refine R_istore_n (q := 10) rfl rfl (Nat.le_of_ble_eq_true rfl) rfl ?_
  dsimp only [List.set]
  refine R_iload_n (q := 11) rfl rfl rfl ?_
  refine R_ldc_w (q := 14) (v := 858993459) rfl rfl rfl ?_
  refine R_iand (q := 15) rfl rfl ?_
  refine R_iload_n (q := 16) rfl rfl rfl ?_
  refine R_iconst (q := 17) (v := nI 2) rfl rfl (by decide) ?_
  refine R_iushr (q := 18) rfl rfl ?_
  refine R_ldc_w (q := 21) (v := 858993459) rfl rfl rfl ?_
  refine R_iand (q := 22) rfl rfl ?_
  refine R_iadd (q := 23) rfl rfl ?_
  refine R_istore_n (q := 24) rfl rfl (Nat.le_of_ble_eq_true rfl) rfl ?_
  dsimp only [List.set]
  refine R_iload_n (q := 25) rfl rfl rfl ?_
  refine R_iload_n (q := 26) rfl rfl rfl ?_
  refine R_iconst (q := 27) (v := nI 4) rfl rfl (by decide) ?_
  refine R_iushr (q := 28) rfl rfl ?_
  refine R_iadd (q := 29) rfl rfl ?_
  refine R_ldc_w (q := 32) (v := 252645135) rfl rfl rfl ?_
  refine R_iand (q := 33) rfl rfl ?_
  refine R_istore_n (q := 34) rfl rfl (Nat.le_of_ble_eq_true rfl) rfl ?_
  dsimp only [List.set]
  refine R_iload_n (q := 35) rfl rfl rfl ?_
  refine R_iload_n (q := 36) rfl rfl rfl ?_
  refine R_bipush (q := 38) (v := nI 8) rfl rfl (by decide) ?_
  refine R_iushr (q := 39) rfl rfl ?_
  refine R_iadd (q := 40) rfl rfl ?_
  refine R_istore_n (q := 41) rfl rfl (Nat.le_of_ble_eq_true rfl) rfl ?_
  dsimp only [List.set]
  refine R_iload_n (q := 42) rfl rfl rfl ?_
  refine R_iload_n (q := 43) rfl rfl rfl ?_
  refine R_bipush (q := 45) (v := nI 16) rfl rfl (by decide) ?_
  refine R_iushr (q := 46) rfl rfl ?_
  refine R_iadd (q := 47) rfl rfl ?_
  refine R_istore_n (q := 48) rfl rfl (Nat.le_of_ble_eq_true rfl) rfl ?_
  dsimp only [List.set]
  refine R_iload_n (q := 49) rfl rfl rfl ?_
  refine R_bipush (q := 51) (v := nI 63) rfl rfl (by decide) ?_
  refine R_iand (q := 52) rfl rfl ?_
  refine R_ireturn rfl rfl ?_
  exact ⟨rfl, rfl⟩
def cntv (f : Nat → Int32) : Nat → Int32
  | 0 => nI 0
  | j + 1 => cntv f j + bcn (f j)
theorem c5 (ha : CA M a f) : mm_R S (d + 1) 5 0 (mm_en 5 [.ref a]) [] M (fun v M' => v = some (.int (cntv f 16)) ∧ M' = M) := by
  obtain ⟨ha1, ha2⟩ := ha
  show mm_R S (d + 1) 5 0 [some (.ref a), none, none] [] M _
  refine R_iconst (q := 1) (v := nI 0) rfl rfl (by decide) ?_
  refine R_istore_n (q := 2) rfl rfl (Nat.le_of_ble_eq_true rfl) rfl ?_
  dsimp only [List.set]
  refine R_iconst (q := 3) (v := nI 0) rfl rfl (by decide) ?_
  refine R_istore_n (q := 4) rfl rfl (Nat.le_of_ble_eq_true rfl) rfl ?_
  dsimp only [List.set]
  refine lpN (fun j => mm_R S (d + 1) 5 4 [some (.ref a), some (.int (cntv f j)), some (.int (nI j))] [] M (fun v M' => v = some (.int (cntv f 16)) ∧ M' = M)) 16 (fun j hj ih => ?_) ?_ 0 (Nat.zero_le _)
  · have hji := in_nI hj (by decide)
    refine R_iload_n (q := 5) rfl rfl rfl ?_
    refine R_bipush (q := 7) (v := nI 16) rfl rfl (by decide) ?_
    refine R_icmp_ge (q := 10) (t := 28) rfl rfl rfl (fun h7 => absurd h7 (nI_ge hj (by decide))) (fun h7 => ?_)
    refine R_iload_n (q := 11) rfl rfl rfl ?_
    refine R_aload_n (q := 12) rfl rfl rfl ?_
    refine R_getf (q := 15) rfl rfl rfl (by assumption) rfl ?_
    refine R_iload_n (q := 16) rfl rfl rfl ?_
    refine R_iaload (q := 17) rfl rfl (by assumption) (by omega) (by assumption) ?_
    refine R_calls1 (q := 20) rfl rfl rfl rfl (Nat.le_of_ble_eq_true rfl) rfl ?_
    refine R_mono (c201) (fun v17 M17 hr17 => ?_)
    obtain ⟨rfl, hm17⟩ := hr17
    rw [hm17]
    dsimp only [Option.toList, List.cons_append, List.nil_append]
    refine R_iadd (q := 21) rfl rfl ?_
    refine R_istore_n (q := 22) rfl rfl (Nat.le_of_ble_eq_true rfl) rfl ?_
    dsimp only [List.set]
    refine R_iinc (q := 25) rfl rfl rfl (nI_i1 j) rfl ?_
    dsimp only [List.set]
    refine R_goto (t := 4) rfl rfl ?_
    rw [cl_nI (by omega)]
    exact ih
  · refine R_iload_n (q := 5) rfl rfl rfl ?_
    refine R_bipush (q := 7) (v := nI 16) rfl rfl (by decide) ?_
    refine R_icmp_ge (q := 10) (t := 28) rfl rfl rfl (fun h7 => ?_) (fun h7 => absurd (nI_le (Nat.le_refl _) (by decide)) h7)
    refine R_iload_n (q := 29) rfl rfl rfl ?_
    refine R_ireturn rfl rfl ?_
    exact ⟨rfl, rfl⟩
theorem c12 {x y w h : Nat} (hw : 1 ≤ w ∧ x + w ≤ 16) (hh : 1 ≤ h ∧ y + h ≤ 16) (ha : CA M a f) : mm_R S (d + 1) 12 0 (mm_en 12 [.ref a, .int (nI x), .int (nI y), .int (nI w), .int (nI h)]) [] M (fun v M' => v = none ∧ M' = mm_put M (a + 1) (ro (ifr (fun i => f i ||| spn x (x + w)) f y (y + h)))) := by
  have hon : (0 ≤ (nI x).toInt ∧ 1 ≤ (nI w).toInt ∧ (nI x).toInt + (nI w).toInt ≤ 16) ∧ 0 ≤ (nI y).toInt ∧ 1 ≤ (nI h).toInt ∧ (nI y).toInt + (nI h).toInt ≤ 16 := by
    rw [i_n x (by omega), i_n y (by omega), i_n w (by omega), i_n h (by omega)]
    omega
  show mm_R S (d + 1) 12 0 [some (.ref a), some (.int (nI x)), some (.int (nI y)), some (.int (nI w)), some (.int (nI h)), none] [] M _
  refine R_iload_n (q := 1) rfl rfl rfl ?_
  refine R_iload_n (q := 2) rfl rfl rfl ?_
  refine R_iload_n (q := 3) rfl rfl rfl ?_
  refine R_iload (q := 5) rfl rfl rfl ?_
  refine R_calls4 (q := 8) rfl rfl rfl rfl (Nat.le_of_ble_eq_true rfl) rfl ?_
  refine R_mono (c143) (fun v5 M5 hr5 => ?_)
  obtain ⟨rfl, hm5⟩ := hr5
  rw [hm5]
  dsimp only [Option.toList, List.cons_append, List.nil_append]
  rw [zb_t hon]
  refine R_if_eq (q := 11) (t := 46) rfl rfl rfl (fun h8 => absurd h8 (by decide)) (fun h8 => ?_)
  refine R_iload_n (q := 12) rfl rfl rfl ?_
  refine R_istore (q := 14) rfl rfl (Nat.le_of_ble_eq_true rfl) rfl ?_
  dsimp only [List.set]
  refine R_atM (M' := mm_put M (a + 1) (ro (ifr (fun i => f i ||| spn x (x + w)) f y y))) (by rw [ifr_0]; exact mm_pself ha.2) ?_
  refine lpM (fun j => mm_R S (d + 1) 12 14 [some (.ref a), some (.int (nI x)), some (.int (nI y)), some (.int (nI w)), some (.int (nI h)), some (.int (nI j))] [] (mm_put M (a + 1) (ro (ifr (fun i => f i ||| spn x (x + w)) f y j))) (fun v M' => v = none ∧ M' = mm_put M (a + 1) (ro (ifr (fun i => f i ||| spn x (x + w)) f y (y + h))))) y (y + h) (fun j hj0 hj ih => ?_) ?_ y (Nat.le_refl _) (by omega)
  · have hj1 : (mm_put M (a + 1) (ro (ifr (fun i => f i ||| spn x (x + w)) f y j))).1 a = some (.inr (0, [.ref (a + 1)])) := (CA_put ha).1
    have hj2 : (mm_put M (a + 1) (ro (ifr (fun i => f i ||| spn x (x + w)) f y j))).1 (a + 1) = some (ro (ifr (fun i => f i ||| spn x (x + w)) f y j)) := mm_pe
    have hji := in_nI (j := j) (n := 16) (by omega) (by decide)
    refine R_iload (q := 16) rfl rfl rfl ?_
    refine R_iload_n (q := 17) rfl rfl rfl ?_
    refine R_iload (q := 19) rfl rfl rfl ?_
    refine R_iadd (q := 20) rfl rfl ?_
    rw [nI_add]
    refine R_icmp_ge (q := 23) (t := 46) rfl rfl rfl (fun h20 => absurd h20 (nI_ge hj (by omega))) (fun h20 => ?_)
    refine R_aload_n (q := 24) rfl rfl rfl ?_
    refine R_getf (q := 27) rfl rfl rfl (by assumption) rfl ?_
    refine R_iload (q := 29) rfl rfl rfl ?_
    refine R_dup2 (q := 30) rfl rfl ?_
    refine R_iaload (q := 31) rfl rfl (by assumption) (by omega) (by assumption) ?_
    refine R_iload_n (q := 32) rfl rfl rfl ?_
    refine R_iload_n (q := 33) rfl rfl rfl ?_
    refine R_iload_n (q := 34) rfl rfl rfl ?_
    refine R_iadd (q := 35) rfl rfl ?_
    rw [nI_add]
    refine R_calls2 (q := 38) rfl rfl rfl rfl (Nat.le_of_ble_eq_true rfl) rfl ?_
    refine R_mono (c145) (fun v35 M35 hr35 => ?_)
    obtain ⟨rfl, hm35⟩ := hr35
    rw [hm35]
    dsimp only [Option.toList, List.cons_append, List.nil_append]
    refine R_ior (q := 39) rfl rfl ?_
    refine R_iastore (q := 40) rfl rfl (by assumption) (by assumption) ?_
    refine R_iinc (q := 43) rfl rfl rfl (nI_i1 j) rfl ?_
    dsimp only [List.set]
    refine R_goto (t := 14) rfl rfl ?_
    refine R_atM ?_ ih
    rw [mm_pp, cl_nI (by omega), ifr_ge]
    exact (congrArg (fun z => mm_put M (a + 1) (ro z)) (ifr_s (n := (fun i => f i ||| spn x (x + w))) hj0)).symm
  · refine R_iload (q := 16) rfl rfl rfl ?_
    refine R_iload_n (q := 17) rfl rfl rfl ?_
    refine R_iload (q := 19) rfl rfl rfl ?_
    refine R_iadd (q := 20) rfl rfl ?_
    rw [nI_add]
    refine R_icmp_ge (q := 23) (t := 46) rfl rfl rfl (fun h20 => ?_) (fun h20 => absurd (nI_le (Nat.le_refl _) (by omega)) h20)
    refine R_return rfl rfl ?_
    exact ⟨rfl, rfl⟩
theorem c13 {x y w h : Nat} (hw : 1 ≤ w ∧ x + w ≤ 16) (hh : 1 ≤ h ∧ y + h ≤ 16) (ha : CA M a f) : mm_R S (d + 1) 13 0 (mm_en 13 [.ref a, .int (nI x), .int (nI y), .int (nI w), .int (nI h)]) [] M (fun v M' => v = none ∧ M' = mm_put M (a + 1) (ro (ifr (fun i => f i &&& (spn x (x + w) ^^^ (-1))) f y (y + h)))) := by
  have hon : (0 ≤ (nI x).toInt ∧ 1 ≤ (nI w).toInt ∧ (nI x).toInt + (nI w).toInt ≤ 16) ∧ 0 ≤ (nI y).toInt ∧ 1 ≤ (nI h).toInt ∧ (nI y).toInt + (nI h).toInt ≤ 16 := by
    rw [i_n x (by omega), i_n y (by omega), i_n w (by omega), i_n h (by omega)]
    omega
  show mm_R S (d + 1) 13 0 [some (.ref a), some (.int (nI x)), some (.int (nI y)), some (.int (nI w)), some (.int (nI h)), none] [] M _
  refine R_iload_n (q := 1) rfl rfl rfl ?_
  refine R_iload_n (q := 2) rfl rfl rfl ?_
  refine R_iload_n (q := 3) rfl rfl rfl ?_
  refine R_iload (q := 5) rfl rfl rfl ?_
  refine R_calls4 (q := 8) rfl rfl rfl rfl (Nat.le_of_ble_eq_true rfl) rfl ?_
  refine R_mono (c143) (fun v5 M5 hr5 => ?_)
  obtain ⟨rfl, hm5⟩ := hr5
  rw [hm5]
  dsimp only [Option.toList, List.cons_append, List.nil_append]
  rw [zb_t hon]
  refine R_if_eq (q := 11) (t := 48) rfl rfl rfl (fun h8 => absurd h8 (by decide)) (fun h8 => ?_)
  refine R_iload_n (q := 12) rfl rfl rfl ?_
  refine R_istore (q := 14) rfl rfl (Nat.le_of_ble_eq_true rfl) rfl ?_
  dsimp only [List.set]
  refine R_atM (M' := mm_put M (a + 1) (ro (ifr (fun i => f i &&& (spn x (x + w) ^^^ (-1))) f y y))) (by rw [ifr_0]; exact mm_pself ha.2) ?_
  refine lpM (fun j => mm_R S (d + 1) 13 14 [some (.ref a), some (.int (nI x)), some (.int (nI y)), some (.int (nI w)), some (.int (nI h)), some (.int (nI j))] [] (mm_put M (a + 1) (ro (ifr (fun i => f i &&& (spn x (x + w) ^^^ (-1))) f y j))) (fun v M' => v = none ∧ M' = mm_put M (a + 1) (ro (ifr (fun i => f i &&& (spn x (x + w) ^^^ (-1))) f y (y + h))))) y (y + h) (fun j hj0 hj ih => ?_) ?_ y (Nat.le_refl _) (by omega)
  · have hj1 : (mm_put M (a + 1) (ro (ifr (fun i => f i &&& (spn x (x + w) ^^^ (-1))) f y j))).1 a = some (.inr (0, [.ref (a + 1)])) := (CA_put ha).1
    have hj2 : (mm_put M (a + 1) (ro (ifr (fun i => f i &&& (spn x (x + w) ^^^ (-1))) f y j))).1 (a + 1) = some (ro (ifr (fun i => f i &&& (spn x (x + w) ^^^ (-1))) f y j)) := mm_pe
    have hji := in_nI (j := j) (n := 16) (by omega) (by decide)
    refine R_iload (q := 16) rfl rfl rfl ?_
    refine R_iload_n (q := 17) rfl rfl rfl ?_
    refine R_iload (q := 19) rfl rfl rfl ?_
    refine R_iadd (q := 20) rfl rfl ?_
    rw [nI_add]
    refine R_icmp_ge (q := 23) (t := 48) rfl rfl rfl (fun h20 => absurd h20 (nI_ge hj (by omega))) (fun h20 => ?_)
    refine R_aload_n (q := 24) rfl rfl rfl ?_
    refine R_getf (q := 27) rfl rfl rfl (by assumption) rfl ?_
    refine R_iload (q := 29) rfl rfl rfl ?_
    refine R_dup2 (q := 30) rfl rfl ?_
    refine R_iaload (q := 31) rfl rfl (by assumption) (by omega) (by assumption) ?_
    refine R_iload_n (q := 32) rfl rfl rfl ?_
    refine R_iload_n (q := 33) rfl rfl rfl ?_
    refine R_iload_n (q := 34) rfl rfl rfl ?_
    refine R_iadd (q := 35) rfl rfl ?_
    rw [nI_add]
    refine R_calls2 (q := 38) rfl rfl rfl rfl (Nat.le_of_ble_eq_true rfl) rfl ?_
    refine R_mono (c145) (fun v35 M35 hr35 => ?_)
    obtain ⟨rfl, hm35⟩ := hr35
    rw [hm35]
    dsimp only [Option.toList, List.cons_append, List.nil_append]
    refine R_iconst (q := 39) (v := (-1)) rfl rfl (by decide) ?_
    refine R_ixor (q := 40) rfl rfl ?_
    refine R_iand (q := 41) rfl rfl ?_
    refine R_iastore (q := 42) rfl rfl (by assumption) (by assumption) ?_
    refine R_iinc (q := 45) rfl rfl rfl (nI_i1 j) rfl ?_
    dsimp only [List.set]
    refine R_goto (t := 14) rfl rfl ?_
    refine R_atM ?_ ih
    rw [mm_pp, cl_nI (by omega), ifr_ge]
    exact (congrArg (fun z => mm_put M (a + 1) (ro z)) (ifr_s (n := (fun i => f i &&& (spn x (x + w) ^^^ (-1)))) hj0)).symm
  · refine R_iload (q := 16) rfl rfl rfl ?_
    refine R_iload_n (q := 17) rfl rfl rfl ?_
    refine R_iload (q := 19) rfl rfl rfl ?_
    refine R_iadd (q := 20) rfl rfl ?_
    rw [nI_add]
    refine R_icmp_ge (q := 23) (t := 48) rfl rfl rfl (fun h20 => ?_) (fun h20 => absurd (nI_le (Nat.le_refl _) (by omega)) h20)
    refine R_return rfl rfl ?_
    exact ⟨rfl, rfl⟩
end P16
