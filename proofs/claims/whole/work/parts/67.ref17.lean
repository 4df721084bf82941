/-! ===== the reference's own calls, XVII: choose ===== -/
theorem sh1 {x : Int32} {m : Nat} (hm : m < 32) : (x >>> (nI m &&& 31)) &&& nI 1 = zb (bt x m) := by
  apply b_ext
  intro i hi
  have hz : ∀ b, bt (zb b) i = (b && decide (i = 0)) := fun b => by
    cases b
    · show bt (nI 0) i = _; rw [show bt (nI 0) i = false from b_0 i]; rfl
    · show bt (nI 1) i = _; rw [bt_1 i hi]; rfl
  rw [b_and, b_sshr m hm _ hi, bt_1 i hi, hz]
  by_cases h0 : i = 0
  · rw [h0, Nat.add_zero, if_pos hm]
  · rw [decide_eq_false h0, Bool.and_false, Bool.and_false]
/-- the chord k in the number S -/
def tks (n S k : Nat) : Bool := S.testBit (n - 1 - k)
def apt (ln st en : Nat → Int32) (n lv S : Nat) : Prop := ∀ a b, a < lv → lv ≤ b → b < n → tks n S a = true → tks n S b = true → ¬ tcb ln st en a b = true
def cnS (n S : Nat) : Nat := cnr (fun k => S.testBit k) n 0
def BST (ln st en : Nat → Int32) (n lv S b m : Nat) : Prop := (b < S ∧ apt ln st en n lv b ∧ cnS n b = m) ∧ ∀ T, T < S → apt ln st en n lv T → cnS n T ≤ m ∧ (cnS n T = m → T ≤ b)
theorem tk0 {n k : Nat} : tks n 0 k = false := Nat.zero_testBit _
theorem BST_0 {ln st en : Nat → Int32} {n lv : Nat} : BST ln st en n lv 1 0 0 := by
  have h0 : cnS n 0 = 0 := cnr_zero n 0 (fun z _ _ => Nat.zero_testBit z)
  refine ⟨⟨by omega, fun a b _ _ _ q => by rw [tk0] at q; exact absurd q (by decide), h0⟩, fun T hT _ => ?_⟩
  have : T = 0 := by omega
  subst this
  exact ⟨by rw [h0]; exact Nat.le_refl _, fun _ => Nat.le_refl _⟩
theorem BST_y {ln st en : Nat → Int32} {n lv S b m : Nat} (h : BST ln st en n lv S b m) (ha : apt ln st en n lv S) (hm : m ≤ cnS n S) : BST ln st en n lv (S + 1) S (cnS n S) := by
  refine ⟨⟨by omega, ha, rfl⟩, fun T hT hTa => ?_⟩
  by_cases hq : T = S
  · rw [hq]; exact ⟨Nat.le_refl _, fun _ => Nat.le_refl _⟩
  · have := h.2 T (by omega) hTa
    exact ⟨by omega, fun _ => by omega⟩
theorem BST_n {ln st en : Nat → Int32} {n lv S b m : Nat} (h : BST ln st en n lv S b m) (hn : ¬ apt ln st en n lv S ∨ cnS n S < m) : BST ln st en n lv (S + 1) b m := by
  refine ⟨⟨by have := h.1.1; omega, h.1.2⟩, fun T hT hTa => ?_⟩
  by_cases hq : T = S
  · rw [hq] at hTa ⊢
    rcases hn with z | z
    · exact absurd hTa z
    · exact ⟨by omega, fun w => by omega⟩
  · exact h.2 T (by omega) hTa
def mk (C : Nat → Bool) : Nat → Nat
  | 0 => 0
  | j + 1 => 2 * mk C j + (if C j = true then 1 else 0)
theorem mk_lt {C : Nat → Bool} : ∀ j, mk C j < 2 ^ j := by
  intro j
  induction j with
  | zero => exact Nat.one_pos
  | succ j ih =>
    show 2 * mk C j + (if C j = true then 1 else 0) < 2 ^ (j + 1)
    rw [Nat.pow_succ]
    split <;> omega
theorem mk_tb {C : Nat → Bool} {j : Nat} : (mk C (j + 1)).testBit 0 = C j ∧ ∀ i, (mk C (j + 1)).testBit (i + 1) = (mk C j).testBit i := by
  have e : mk C (j + 1) = 2 * mk C j + (if C j = true then 1 else 0) := rfl
  constructor
  · rw [Nat.testBit_zero, e]
    cases C j
    · rw [if_neg (by decide)]; exact decide_eq_false (by omega)
    · rw [if_pos rfl]; exact decide_eq_true (by omega)
  · intro i
    rw [Nat.testBit_succ, e]
    congr 1
    split <;> omega
theorem mk_k {C : Nat → Bool} : ∀ j k, k < j → (mk C j).testBit (j - 1 - k) = C k := by
  intro j
  induction j with
  | zero => intro k hk; omega
  | succ j ih =>
    intro k hk
    by_cases hq : k = j
    · subst hq
      rw [show k + 1 - 1 - k = 0 by omega]
      exact mk_tb.1
    · rw [show j + 1 - 1 - k = (j - 1 - k) + 1 by omega, mk_tb.2]
      exact ih k (by omega)
theorem mk_cn {C : Nat → Bool} : ∀ j, cnS j (mk C j) = cnr C j 0 := by
  intro j
  induction j with
  | zero => rfl
  | succ j ih =>
    unfold cnS
    show (if (mk C (j + 1)).testBit 0 = true then 1 else 0) + cnr (fun k => (mk C (j + 1)).testBit k) j (0 + 1) = _
    have h1 := cnr_sh (a := fun k => (mk C (j + 1)).testBit k) (c := fun k => (mk C j).testBit k) (s := 1) (t := 0) j 0 (fun k hk => by
      show (mk C (j + 1)).testBit (1 + 0 + k) = (mk C j).testBit (0 + 0 + k)
      rw [show 1 + 0 + k = k + 1 by omega, show 0 + 0 + k = k by omega]
      exact mk_tb.2 k)
    have h1 : cnr (fun k => (mk C (j + 1)).testBit k) j (0 + 1) = cnS j (mk C j) := h1
    rw [h1, mk_tb.1, ih, cnr_sn, Nat.zero_add, Nat.add_comm]
theorem mk_ord {C D : Nat → Bool} {z : Nat} (h1 : ∀ k, k < z → D k = C k) (h2 : C z = true) (h3 : D z = false) : ∀ j, mk D (z + 1 + j) < mk C (z + 1 + j) := by
  have h0 : ∀ j, j ≤ z → mk D j = mk C j := by
    intro j
    induction j with
    | zero => intro _; rfl
    | succ j ih => intro hj; show 2 * mk D j + (if D j = true then 1 else 0) = 2 * mk C j + (if C j = true then 1 else 0); rw [ih (by omega), h1 j (by omega)]
  intro j
  induction j with
  | zero =>
    show 2 * mk D z + (if D z = true then 1 else 0) < 2 * mk C z + (if C z = true then 1 else 0)
    rw [h0 z (Nat.le_refl _), h2, h3, if_pos rfl, if_neg (by decide)]
    omega
  | succ j ih =>
    show 2 * mk D (z + 1 + j) + (if D (z + 1 + j) = true then 1 else 0) < 2 * mk C (z + 1 + j) + (if C (z + 1 + j) = true then 1 else 0)
    split <;> split <;> omega
theorem mk_eq {n S : Nat} (hS : S < 2 ^ n) : mk (tks n S) n = S := by
  apply Nat.eq_of_testBit_eq
  intro i
  by_cases hi : i < n
  · have := mk_k (C := tks n S) n (n - 1 - i) (by omega)
    rw [show n - 1 - (n - 1 - i) = i by omega] at this
    rw [this]
    unfold tks
    rw [show n - 1 - (n - 1 - i) = i by omega]
  · have h2 : 2 ^ n ≤ 2 ^ i := Nat.pow_le_pow_right (show 0 < 2 by decide) (by omega)
    rw [Nat.testBit_lt_two_pow (Nat.lt_of_lt_of_le (mk_lt n) h2), Nat.testBit_lt_two_pow (Nat.lt_of_lt_of_le hS h2)]
/-- the reference's choice is the class's -/
theorem choice {ln st en to : Nat → Int32} {n lv b m : Nat} {C : Nat → Bool} (hto : ∀ i j, i < lv → lv ≤ j → j < n → (bt (to i) j = true ↔ tcb ln st en i j = true)) (hC : LXM to n lv C) (hB : BST ln st en n lv (2 ^ n) b m) : ∀ k, k < n → tks n b k = C k := by
  have hind : ∀ J, indp to n lv J ↔ ∀ i j, i < lv → lv ≤ j → j < n → J i = true → J j = true → ¬ tcb ln st en i j = true := by
    intro J
    constructor
    · intro q i j i1 j1 j2 q1 q2 q3; exact q i j i1 j1 j2 q1 q2 ((hto i j i1 j1 j2).mpr q3)
    · intro q i j i1 j1 j2 q1 q2 q3; exact q i j i1 j1 j2 q1 q2 ((hto i j i1 j1 j2).mp q3)
  obtain ⟨⟨b1, b2, b3⟩, b4⟩ := hB
  have hDi : indp to n lv (tks n b) := (hind _).mpr b2
  have hmD : mk (tks n b) n = b := mk_eq b1
  have hcD : cnr (tks n b) n 0 = m := by rw [← mk_cn, hmD]; exact b3
  have hN : apt ln st en n lv (mk C n) := by
    intro i j i1 j1 j2 q1 q2 q3
    unfold tks at q1 q2
    rw [mk_k n i (by omega)] at q1
    rw [mk_k n j (by omega)] at q2
    exact (hind C).mp hC.1 i j i1 j1 j2 q1 q2 q3
  have h1 := b4 (mk C n) (mk_lt n) hN
  rw [mk_cn] at h1
  have h2 := hC.2 (tks n b) hDi
  have he : cnr (tks n b) n 0 = cnr C n 0 := by omega
  rcases h2.2 he with h3 | ⟨z, z1, z2, z3, z4⟩
  · exact h3
  · have h4 := mk_ord z2 z3 z4 (n - (z + 1))
    rw [show z + 1 + (n - (z + 1)) = n by omega, hmD] at h4
    have := h1.2 (by omega)
    omega
section P67
variable {S : mm_S} {d : Nat} {M : mm_M} {A : AS} {I : Nat → Int32} {sh : Nat → Nat → Int32} {o : OS} {l : LYS} {pi fa tp : IS}
set_option maxRecDepth 8000 in
theorem m180 {a b : Nat} (ha : a < 289) (hb0 : b < 289) : mm_R S (d + 0) 180 0 (mm_en 180 [.ref 73, .int (nI a), .int (nI b)]) [] (mdm M A I) (fun v M' => v = some (.int (zb (tcb (A 100) (A 98) (A 99) a b))) ∧ M' = mdm M A I) := by
  show mm_R S (d + 0) 180 0 [some (.ref 73), some (.int (nI a)), some (.int (nI b))] [] (mdm M A I) _
  refine R_aload_n (q := 1) rfl rfl rfl ?_
  refine R_getf (q := 4) rfl rfl rfl md_73 rfl ?_
  refine R_iload_n (q := 5) rfl rfl rfl ?_
  refine R_iaload (q := 6) rfl rfl md_98 (by decide) (by first | assumption | exact in_nI (by omega) (by decide)) ?_
  rw [cl_nI (by omega)]
  refine R_aload_n (q := 7) rfl rfl rfl ?_
  refine R_getf (q := 10) rfl rfl rfl md_73 rfl ?_
  refine R_iload_n (q := 11) rfl rfl rfl ?_
  refine R_iaload (q := 12) rfl rfl md_100 (by decide) (by first | assumption | exact in_nI (by omega) (by decide)) ?_
  rw [cl_nI (by omega)]
  refine R_icmp_gt (q := 15) (t := 64) rfl rfl rfl (fun h12 => ?_) (fun h12 => ?_)
  · refine R_iconst (q := 65) (v := nI 0) rfl rfl (by decide) ?_
    refine R_zreturn rfl rfl (by first | exact Or.inl rfl | exact Or.inr rfl | assumption) ?_
    refine ⟨congrArg some (congrArg Value.int ?_), rfl⟩
    unfold tcb
    first
      | exact (zb_t ⟨⟨i_nle h12, i_nle h27⟩, i_nle h42, i_nle h57⟩).symm
      | exact (zb_f (fun q => i_lnl q.1.1 h12)).symm
      | exact (zb_f (fun q => i_lnl q.1.2 h27)).symm
      | exact (zb_f (fun q => i_lnl q.2.1 h42)).symm
      | exact (zb_f (fun q => i_lnl q.2.2 h57)).symm
  · refine R_aload_n (q := 16) rfl rfl rfl ?_
    refine R_getf (q := 19) rfl rfl rfl md_73 rfl ?_
    refine R_iload_n (q := 20) rfl rfl rfl ?_
    refine R_iaload (q := 21) rfl rfl md_100 (by decide) (by first | assumption | exact in_nI (by omega) (by decide)) ?_
    rw [cl_nI (by omega)]
    refine R_aload_n (q := 22) rfl rfl rfl ?_
    refine R_getf (q := 25) rfl rfl rfl md_73 rfl ?_
    refine R_iload_n (q := 26) rfl rfl rfl ?_
    refine R_iaload (q := 27) rfl rfl md_99 (by decide) (by first | assumption | exact in_nI (by omega) (by decide)) ?_
    rw [cl_nI (by omega)]
    refine R_icmp_gt (q := 30) (t := 64) rfl rfl rfl (fun h27 => ?_) (fun h27 => ?_)
    · refine R_iconst (q := 65) (v := nI 0) rfl rfl (by decide) ?_
      refine R_zreturn rfl rfl (by first | exact Or.inl rfl | exact Or.inr rfl | assumption) ?_
      refine ⟨congrArg some (congrArg Value.int ?_), rfl⟩
      unfold tcb
      first
        | exact (zb_t ⟨⟨i_nle h12, i_nle h27⟩, i_nle h42, i_nle h57⟩).symm
        | exact (zb_f (fun q => i_lnl q.1.1 h12)).symm
        | exact (zb_f (fun q => i_lnl q.1.2 h27)).symm
        | exact (zb_f (fun q => i_lnl q.2.1 h42)).symm
        | exact (zb_f (fun q => i_lnl q.2.2 h57)).symm
    · refine R_aload_n (q := 31) rfl rfl rfl ?_
      refine R_getf (q := 34) rfl rfl rfl md_73 rfl ?_
      refine R_iload_n (q := 35) rfl rfl rfl ?_
      refine R_iaload (q := 36) rfl rfl md_98 (by decide) (by first | assumption | exact in_nI (by omega) (by decide)) ?_
      rw [cl_nI (by omega)]
      refine R_aload_n (q := 37) rfl rfl rfl ?_
      refine R_getf (q := 40) rfl rfl rfl md_73 rfl ?_
      refine R_iload_n (q := 41) rfl rfl rfl ?_
      refine R_iaload (q := 42) rfl rfl md_100 (by decide) (by first | assumption | exact in_nI (by omega) (by decide)) ?_
      rw [cl_nI (by omega)]
      refine R_icmp_gt (q := 45) (t := 64) rfl rfl rfl (fun h42 => ?_) (fun h42 => ?_)
      · refine R_iconst (q := 65) (v := nI 0) rfl rfl (by decide) ?_
        refine R_zreturn rfl rfl (by first | exact Or.inl rfl | exact Or.inr rfl | assumption) ?_
        refine ⟨congrArg some (congrArg Value.int ?_), rfl⟩
        unfold tcb
        first
          | exact (zb_t ⟨⟨i_nle h12, i_nle h27⟩, i_nle h42, i_nle h57⟩).symm
          | exact (zb_f (fun q => i_lnl q.1.1 h12)).symm
          | exact (zb_f (fun q => i_lnl q.1.2 h27)).symm
          | exact (zb_f (fun q => i_lnl q.2.1 h42)).symm
          | exact (zb_f (fun q => i_lnl q.2.2 h57)).symm
      · refine R_aload_n (q := 46) rfl rfl rfl ?_
        refine R_getf (q := 49) rfl rfl rfl md_73 rfl ?_
        refine R_iload_n (q := 50) rfl rfl rfl ?_
        refine R_iaload (q := 51) rfl rfl md_100 (by decide) (by first | assumption | exact in_nI (by omega) (by decide)) ?_
        rw [cl_nI (by omega)]
        refine R_aload_n (q := 52) rfl rfl rfl ?_
        refine R_getf (q := 55) rfl rfl rfl md_73 rfl ?_
        refine R_iload_n (q := 56) rfl rfl rfl ?_
        refine R_iaload (q := 57) rfl rfl md_99 (by decide) (by first | assumption | exact in_nI (by omega) (by decide)) ?_
        rw [cl_nI (by omega)]
        refine R_icmp_gt (q := 60) (t := 64) rfl rfl rfl (fun h57 => ?_) (fun h57 => ?_)
        · refine R_iconst (q := 65) (v := nI 0) rfl rfl (by decide) ?_
          refine R_zreturn rfl rfl (by first | exact Or.inl rfl | exact Or.inr rfl | assumption) ?_
          refine ⟨congrArg some (congrArg Value.int ?_), rfl⟩
          unfold tcb
          first
            | exact (zb_t ⟨⟨i_nle h12, i_nle h27⟩, i_nle h42, i_nle h57⟩).symm
            | exact (zb_f (fun q => i_lnl q.1.1 h12)).symm
            | exact (zb_f (fun q => i_lnl q.1.2 h27)).symm
            | exact (zb_f (fun q => i_lnl q.2.1 h42)).symm
            | exact (zb_f (fun q => i_lnl q.2.2 h57)).symm
        · refine R_iconst (q := 61) (v := nI 1) rfl rfl (by decide) ?_
          refine R_goto (t := 65) rfl rfl ?_
          refine R_zreturn rfl rfl (by first | exact Or.inl rfl | exact Or.inr rfl | assumption) ?_
          refine ⟨congrArg some (congrArg Value.int ?_), rfl⟩
          unfold tcb
          first
            | exact (zb_t ⟨⟨i_nle h12, i_nle h27⟩, i_nle h42, i_nle h57⟩).symm
            | exact (zb_f (fun q => i_lnl q.1.1 h12)).symm
            | exact (zb_f (fun q => i_lnl q.1.2 h27)).symm
            | exact (zb_f (fun q => i_lnl q.2.1 h42)).symm
            | exact (zb_f (fun q => i_lnl q.2.2 h57)).symm
set_option maxRecDepth 8000 in
theorem m182 {n Z k : Nat} (hn : n ≤ 14) (hI6 : I 36 = nI n) (hk : k < n) : mm_R S (d + 0) 182 0 (mm_en 182 [.ref 73, .int (nI Z), .int (nI k)]) [] (mdm M A I) (fun v M' => v = some (.int (zb (tks n Z k))) ∧ M' = mdm M A I) := by
  show mm_R S (d + 0) 182 0 [some (.ref 73), some (.int (nI Z)), some (.int (nI k))] [] (mdm M A I) _
  refine R_iload_n (q := 1) rfl rfl rfl ?_
  refine R_aload_n (q := 2) rfl rfl rfl ?_
  refine R_getf (q := 5) rfl rfl rfl md_73 rfl ?_
  rw [hI6]
  refine R_iconst (q := 6) (v := nI 1) rfl rfl (by decide) ?_
  refine R_isub (q := 7) rfl rfl ?_
  rw [n_sub (by omega) (by omega)]
  refine R_iload_n (q := 8) rfl rfl rfl ?_
  refine R_isub (q := 9) rfl rfl ?_
  rw [n_sub (by omega) (by omega)]
  refine R_ishr (q := 10) rfl rfl ?_
  refine R_iconst (q := 11) (v := nI 1) rfl rfl (by decide) ?_
  refine R_iand (q := 12) rfl rfl ?_
  rw [sh1 (by omega), bt_nI (by omega)]
  refine R_iconst (q := 13) (v := nI 1) rfl rfl (by decide) ?_
  refine R_icmp_ne (q := 16) (t := 20) rfl rfl rfl (fun h13 => ?_) (fun h13 => ?_)
  · refine R_iconst (q := 21) (v := nI 0) rfl rfl (by decide) ?_
    refine R_zreturn rfl rfl (by first | exact Or.inl rfl | exact Or.inr rfl | assumption) ?_
    refine ⟨congrArg some (congrArg Value.int ?_), rfl⟩
    unfold tks
    first
      | (have q : Z.testBit (n - 1 - k) = true := zb_inj.mp (show zb (Z.testBit (n - 1 - k)) = zb true from h13)
         rw [q]; rfl)
      | (have q : ¬ Z.testBit (n - 1 - k) = true := fun z => h13 (by rw [z]; rfl)
         rw [Bool.eq_false_iff.mpr q]; rfl)
  · refine R_iconst (q := 17) (v := nI 1) rfl rfl (by decide) ?_
    refine R_goto (t := 21) rfl rfl ?_
    refine R_zreturn rfl rfl (by first | exact Or.inl rfl | exact Or.inr rfl | assumption) ?_
    refine ⟨congrArg some (congrArg Value.int ?_), rfl⟩
    unfold tks
    first
      | (have q : Z.testBit (n - 1 - k) = true := zb_inj.mp (show zb (Z.testBit (n - 1 - k)) = zb true from h13)
         rw [q]; rfl)
      | (have q : ¬ Z.testBit (n - 1 - k) = true := fun z => h13 (by rw [z]; rfl)
         rw [Bool.eq_false_iff.mpr q]; rfl)
set_option maxRecDepth 8000 in
theorem m183 {n lv Z : Nat} (hn : n ≤ 14) (hl : lv ≤ n) (hI5 : I 35 = nI lv) (hI6 : I 36 = nI n) : mm_R S (d + 1) 183 0 (mm_en 183 [.ref 73, .int (nI Z)]) [] (mdm M A I) (fun v M' => (v = some (.int (nI 1)) ∧ apt (A 100) (A 98) (A 99) n lv Z ∨ v = some (.int (nI 0)) ∧ ¬ apt (A 100) (A 98) (A 99) n lv Z) ∧ M' = mdm M A I) := by
  show mm_R S (d + 1) 183 0 [some (.ref 73), some (.int (nI Z)), none, none] [] (mdm M A I) _
  have ha : ∀ (j a : Nat) (t3 : Option Value), a + j = lv → (∀ x y, x < a → lv ≤ y → y < n → tks n Z x = true → tks n Z y = true → ¬ tcb (A 100) (A 98) (A 99) x y = true) → mm_R S (d + 1) 183 2 [some (.ref 73), some (.int (nI Z)), some (.int (nI a)), t3] [] (mdm M A I) (fun v M' => (v = some (.int (nI 1)) ∧ apt (A 100) (A 98) (A 99) n lv Z ∨ v = some (.int (nI 0)) ∧ ¬ apt (A 100) (A 98) (A 99) n lv Z) ∧ M' = mdm M A I) := by
    intro j
    induction j with
    | zero =>
      intro a t3 haj hp
      have : a = lv := by omega
      subst this
      refine R_iload_n (q := 3) rfl rfl rfl ?_
      refine R_aload_n (q := 4) rfl rfl rfl ?_
      refine R_getf (q := 7) rfl rfl rfl md_73 rfl ?_
      rw [hI5]
      refine R_icmp_ge (q := 10) (t := 64) rfl rfl rfl (fun h7 => ?_) (fun h7 => absurd (nI_le (by omega) (by omega)) h7)
      refine R_iconst (q := 65) (v := nI 1) rfl rfl (by decide) ?_
      refine R_zreturn rfl rfl (by first | exact Or.inl rfl | exact Or.inr rfl | assumption) ?_
      exact ⟨Or.inl ⟨rfl, fun x y x1 y1 y2 => hp x y x1 y1 y2⟩, rfl⟩
    | succ j ih =>
      intro a t3 haj hp
      have hb : ∀ (jj b : Nat), b + jj = n → lv ≤ b → (∀ y, lv ≤ y → y < b → tks n Z a = true → tks n Z y = true → ¬ tcb (A 100) (A 98) (A 99) a y = true) → mm_R S (d + 1) 183 15 [some (.ref 73), some (.int (nI Z)), some (.int (nI a)), some (.int (nI b))] [] (mdm M A I) (fun v M' => (v = some (.int (nI 1)) ∧ apt (A 100) (A 98) (A 99) n lv Z ∨ v = some (.int (nI 0)) ∧ ¬ apt (A 100) (A 98) (A 99) n lv Z) ∧ M' = mdm M A I) := by
        intro jj
        induction jj with
        | zero =>
          intro b hb1 hb2 hq
          have : b = n := by omega
          subst this
          refine R_iload_n (q := 16) rfl rfl rfl ?_
          refine R_aload_n (q := 17) rfl rfl rfl ?_
          refine R_getf (q := 20) rfl rfl rfl md_73 rfl ?_
          rw [hI6]
          refine R_icmp_ge (q := 23) (t := 58) rfl rfl rfl (fun h20 => ?_) (fun h20 => absurd (nI_le (by omega) (by omega)) h20)
          refine R_iinc (q := 61) rfl rfl rfl (nI_i1 a) rfl ?_
          dsimp only [List.set]
          refine R_goto (t := 2) rfl rfl ?_
          refine ih (a + 1) _ (by omega) (fun x y x1 y1 y2 => ?_)
          by_cases hx : x = a
          · subst hx; exact hq y y1 y2
          · exact hp x y (by omega) y1 y2
        | succ jj ih2 =>
          intro b hb1 hb2 hq
          refine R_iload_n (q := 16) rfl rfl rfl ?_
          refine R_aload_n (q := 17) rfl rfl rfl ?_
          refine R_getf (q := 20) rfl rfl rfl md_73 rfl ?_
          rw [hI6]
          refine R_icmp_ge (q := 23) (t := 58) rfl rfl rfl (fun h20 => absurd h20 (nI_ge (by omega) (by omega))) (fun h20 => ?_)
          refine R_aload_n (q := 24) rfl rfl rfl ?_
          refine R_iload_n (q := 25) rfl rfl rfl ?_
          refine R_iload_n (q := 26) rfl rfl rfl ?_
          refine R_callv2 (q := 29) rfl rfl rfl rfl md_73 (Nat.le_of_ble_eq_true rfl) rfl ?_
          refine R_mono (m182 (k := a) hn hI6 (by omega)) (fun v26 M26 hr26 => ?_)
          obtain ⟨rfl, hm26⟩ := hr26
          rw [hm26]
          dsimp only [Option.toList, List.cons_append, List.nil_append]
          refine R_if_eq (q := 32) (t := 52) rfl rfl rfl (fun h29 => ?_) (fun h29 => ?_)
          · refine R_iinc (q := 55) rfl rfl rfl (nI_i1 b) rfl ?_
            dsimp only [List.set]
            refine R_goto (t := 15) rfl rfl ?_
            refine ih2 (b + 1) (by omega) (by omega) (fun y y1 y2 q1 q2 q3 => ?_)
            by_cases hy : y = b
            · subst hy
              first
                | (have w := zb_eq0.mp h29
                   rw [w] at q1; exact absurd q1 (by decide))
                | (have w := zb_eq0.mp h38
                   rw [w] at q2; exact absurd q2 (by decide))
                | (have w := zb_eq0.mp h47
                   rw [w] at q3; exact absurd q3 (by decide))
            · exact hq y y1 (by omega) q1 q2 q3
          · refine R_aload_n (q := 33) rfl rfl rfl ?_
            refine R_iload_n (q := 34) rfl rfl rfl ?_
            refine R_iload_n (q := 35) rfl rfl rfl ?_
            refine R_callv2 (q := 38) rfl rfl rfl rfl md_73 (Nat.le_of_ble_eq_true rfl) rfl ?_
            refine R_mono (m182 (k := b) hn hI6 (by omega)) (fun v35 M35 hr35 => ?_)
            obtain ⟨rfl, hm35⟩ := hr35
            rw [hm35]
            dsimp only [Option.toList, List.cons_append, List.nil_append]
            refine R_if_eq (q := 41) (t := 52) rfl rfl rfl (fun h38 => ?_) (fun h38 => ?_)
            · refine R_iinc (q := 55) rfl rfl rfl (nI_i1 b) rfl ?_
              dsimp only [List.set]
              refine R_goto (t := 15) rfl rfl ?_
              refine ih2 (b + 1) (by omega) (by omega) (fun y y1 y2 q1 q2 q3 => ?_)
              by_cases hy : y = b
              · subst hy
                first
                  | (have w := zb_eq0.mp h29
                     rw [w] at q1; exact absurd q1 (by decide))
                  | (have w := zb_eq0.mp h38
                     rw [w] at q2; exact absurd q2 (by decide))
                  | (have w := zb_eq0.mp h47
                     rw [w] at q3; exact absurd q3 (by decide))
              · exact hq y y1 (by omega) q1 q2 q3
            · refine R_aload_n (q := 42) rfl rfl rfl ?_
              refine R_iload_n (q := 43) rfl rfl rfl ?_
              refine R_iload_n (q := 44) rfl rfl rfl ?_
              refine R_callv2 (q := 47) rfl rfl rfl rfl md_73 (Nat.le_of_ble_eq_true rfl) rfl ?_
              refine R_mono (m180 (by omega) (by omega)) (fun v44 M44 hr44 => ?_)
              obtain ⟨rfl, hm44⟩ := hr44
              rw [hm44]
              dsimp only [Option.toList, List.cons_append, List.nil_append]
              refine R_if_eq (q := 50) (t := 52) rfl rfl rfl (fun h47 => ?_) (fun h47 => ?_)
              · refine R_iinc (q := 55) rfl rfl rfl (nI_i1 b) rfl ?_
                dsimp only [List.set]
                refine R_goto (t := 15) rfl rfl ?_
                refine ih2 (b + 1) (by omega) (by omega) (fun y y1 y2 q1 q2 q3 => ?_)
                by_cases hy : y = b
                · subst hy
                  first
                    | (have w := zb_eq0.mp h29
                       rw [w] at q1; exact absurd q1 (by decide))
                    | (have w := zb_eq0.mp h38
                       rw [w] at q2; exact absurd q2 (by decide))
                    | (have w := zb_eq0.mp h47
                       rw [w] at q3; exact absurd q3 (by decide))
                · exact hq y y1 (by omega) q1 q2 q3
              · refine R_iconst (q := 51) (v := nI 0) rfl rfl (by decide) ?_
                refine R_zreturn rfl rfl (by first | exact Or.inl rfl | exact Or.inr rfl | assumption) ?_
                exact ⟨Or.inr ⟨rfl, fun q => q a b (by omega) hb2 (by omega) (zb_ne0.mp h29) (zb_ne0.mp h38) (zb_ne0.mp h47)⟩, rfl⟩
      refine R_iload_n (q := 3) rfl rfl rfl ?_
      refine R_aload_n (q := 4) rfl rfl rfl ?_
      refine R_getf (q := 7) rfl rfl rfl md_73 rfl ?_
      rw [hI5]
      refine R_icmp_ge (q := 10) (t := 64) rfl rfl rfl (fun h7 => absurd h7 (nI_ge (by omega) (by omega))) (fun h7 => ?_)
      refine R_aload_n (q := 11) rfl rfl rfl ?_
      refine R_getf (q := 14) rfl rfl rfl md_73 rfl ?_
      rw [hI5]
      refine R_istore_n (q := 15) rfl rfl (Nat.le_of_ble_eq_true rfl) rfl ?_
      dsimp only [List.set]
      exact hb (n - lv) lv (by omega) (Nat.le_refl _) (fun y y1 y2 => by omega)
  refine R_iconst (q := 1) (v := nI 0) rfl rfl (by decide) ?_
  refine R_istore_n (q := 2) rfl rfl (Nat.le_of_ble_eq_true rfl) rfl ?_
  dsimp only [List.set]
  exact ha lv 0 _ (by omega) (fun x y x1 => absurd x1 (Nat.not_lt_zero _))
theorem shl1 : ∀ n, n < 15 → nI 1 <<< (nI n &&& 31) = nI (2 ^ n) := by decide +kernel
set_option maxRecDepth 8000 in
theorem m181 {n lv : Nat} (hn : n ≤ 14) (hl : lv ≤ n) (hI5 : I 35 = nI lv) (hI6 : I 36 = nI n) : mm_R S (d + 2) 181 0 (mm_en 181 [.ref 73]) [] (mdm M A I) (fun v M' => ∃ b m, v = some (.int (nI b)) ∧ M' = mdm M A I ∧ b < 2 ^ n ∧ BST (A 100) (A 98) (A 99) n lv (2 ^ n) b m) := by
  show mm_R S (d + 2) 181 0 [some (.ref 73), none, none, none, none, none] [] (mdm M A I) _
  have h2n : 2 ^ n ≤ 2 ^ 14 := Nat.pow_le_pow_right (show 0 < 2 by decide) hn
  have h2n : 2 ^ n ≤ 16384 := h2n
  have h1n : 1 ≤ 2 ^ n := Nat.one_le_two_pow
  have hs : ∀ (j Z b m : Nat) (t4 t5 : Option Value), Z + j = 2 ^ n → BST (A 100) (A 98) (A 99) n lv Z b m → m ≤ 14 → mm_R S (d + 2) 181 6 [some (.ref 73), some (.int (nI b)), some (.int (nI m)), some (.int (nI Z)), t4, t5] [] (mdm M A I) (fun v M' => ∃ b m, v = some (.int (nI b)) ∧ M' = mdm M A I ∧ b < 2 ^ n ∧ BST (A 100) (A 98) (A 99) n lv (2 ^ n) b m) := by
    intro j
    induction j with
    | zero =>
      intro Z b m t4 t5 hS hB hm
      have hS2 : Z = 2 ^ n := by omega
      refine R_iload_n (q := 7) rfl rfl rfl ?_
      refine R_iconst (q := 8) (v := nI 1) rfl rfl (by decide) ?_
      refine R_aload_n (q := 9) rfl rfl rfl ?_
      refine R_getf (q := 12) rfl rfl rfl md_73 rfl ?_
      rw [hI6]
      refine R_ishl (q := 13) rfl rfl ?_
      rw [shl1 n (by omega)]
      refine R_icmp_ge (q := 16) (t := 73) rfl rfl rfl (fun h13 => ?_) (fun h13 => absurd (nI_le (by omega) (by omega)) h13)
      refine R_iload_n (q := 74) rfl rfl rfl ?_
      refine R_ireturn rfl rfl ?_
      exact ⟨b, m, rfl, rfl, by have := hB.1.1; omega, hS2 ▸ hB⟩
    | succ j ih =>
      intro Z b m t4 t5 hS hB hm
      have hcl : cnS n Z ≤ n := cnr_le n 0
      have hbz : b < 2 ^ n := by have := hB.1.1; omega
      have hk : ∀ (jj k : Nat), k + jj = n → mm_R S (d + 2) 181 22 [some (.ref 73), some (.int (nI b)), some (.int (nI m)), some (.int (nI Z)), some (.int (nI (cnr (fun k => Z.testBit k) k 0))), some (.int (nI k))] [] (mdm M A I) (fun v M' => ∃ b m, v = some (.int (nI b)) ∧ M' = mdm M A I ∧ b < 2 ^ n ∧ BST (A 100) (A 98) (A 99) n lv (2 ^ n) b m) := by
        intro jj
        induction jj with
        | zero =>
          intro k hkk
          have hkn : k = n := by omega
          have hc2 : cnr (fun k => Z.testBit k) k 0 = cnS n Z := by rw [hkn]; rfl
          rw [hc2]
          refine R_iload (q := 24) rfl rfl rfl ?_
          refine R_aload_n (q := 25) rfl rfl rfl ?_
          refine R_getf (q := 28) rfl rfl rfl md_73 rfl ?_
          rw [hI6]
          refine R_icmp_ge (q := 31) (t := 48) rfl rfl rfl (fun h28 => ?_) (fun h28 => absurd (nI_le (by omega) (by omega)) h28)
          refine R_iload (q := 50) rfl rfl rfl ?_
          refine R_iload_n (q := 51) rfl rfl rfl ?_
          refine R_icmp_lt (q := 54) (t := 67) rfl rfl rfl (fun h51 => ?_) (fun h51 => ?_)
          · refine R_iinc (q := 70) rfl rfl rfl (nI_i1 Z) rfl ?_
            dsimp only [List.set]
            refine R_goto (t := 6) rfl rfl ?_
            exact ih (Z + 1) b m _ _ (by omega) (BST_n hB (Or.inr (by rw [i_lt, i_n _ (by omega), i_n _ (by omega)] at h51; omega))) hm
          · refine R_aload_n (q := 55) rfl rfl rfl ?_
            refine R_iload_n (q := 56) rfl rfl rfl ?_
            refine R_callv1 (q := 59) rfl rfl rfl rfl md_73 (Nat.le_of_ble_eq_true rfl) rfl ?_
            refine R_mono (m183 (Z := Z) hn hl hI5 hI6) (fun v56 M56 hr56 => ?_)
            obtain ⟨hv56, hm56⟩ := hr56
            rw [hm56]
            rcases hv56 with ⟨rfl, hap⟩ | ⟨rfl, hap⟩
            · dsimp only [Option.toList, List.cons_append, List.nil_append]
              refine R_if_eq (q := 62) (t := 67) rfl rfl rfl (fun h59 => absurd h59 (by decide)) (fun h59 => ?_)
              refine R_iload_n (q := 63) rfl rfl rfl ?_
              refine R_istore_n (q := 64) rfl rfl (Nat.le_of_ble_eq_true rfl) rfl ?_
              dsimp only [List.set]
              refine R_iload (q := 66) rfl rfl rfl ?_
              refine R_istore_n (q := 67) rfl rfl (Nat.le_of_ble_eq_true rfl) rfl ?_
              dsimp only [List.set]
              refine R_iinc (q := 70) rfl rfl rfl (nI_i1 Z) rfl ?_
              dsimp only [List.set]
              refine R_goto (t := 6) rfl rfl ?_
              exact ih (Z + 1) Z (cnS n Z) _ _ (by omega) (BST_y hB hap (Nat.le_of_not_lt (fun q => h51 (by rw [i_lt, i_n _ (by omega), i_n _ (by omega)]; omega)))) (by omega)
            · dsimp only [Option.toList, List.cons_append, List.nil_append]
              refine R_if_eq (q := 62) (t := 67) rfl rfl rfl (fun h59 => ?_) (fun h59 => absurd rfl h59)
              refine R_iinc (q := 70) rfl rfl rfl (nI_i1 Z) rfl ?_
              dsimp only [List.set]
              refine R_goto (t := 6) rfl rfl ?_
              exact ih (Z + 1) b m _ _ (by omega) (BST_n hB (Or.inl hap)) hm
        | succ jj ih2 =>
          intro k hkk
          have esn : cnr (fun k => Z.testBit k) (k + 1) 0 = cnr (fun k => Z.testBit k) k 0 + (if Z.testBit k = true then 1 else 0) := by rw [cnr_sn, Nat.zero_add]
          have ezb : zb (Z.testBit k) = nI (if Z.testBit k = true then 1 else 0) := by cases Z.testBit k <;> rfl
          refine R_iload (q := 24) rfl rfl rfl ?_
          refine R_aload_n (q := 25) rfl rfl rfl ?_
          refine R_getf (q := 28) rfl rfl rfl md_73 rfl ?_
          rw [hI6]
          refine R_icmp_ge (q := 31) (t := 48) rfl rfl rfl (fun h28 => absurd h28 (nI_ge (by omega) (by omega))) (fun h28 => ?_)
          refine R_iload (q := 33) rfl rfl rfl ?_
          refine R_iload_n (q := 34) rfl rfl rfl ?_
          refine R_iload (q := 36) rfl rfl rfl ?_
          refine R_ishr (q := 37) rfl rfl ?_
          refine R_iconst (q := 38) (v := nI 1) rfl rfl (by decide) ?_
          refine R_iand (q := 39) rfl rfl ?_
          rw [sh1 (by omega), bt_nI (by omega), ezb]
          refine R_iadd (q := 40) rfl rfl ?_
          rw [nI_add, ← esn]
          refine R_istore (q := 42) rfl rfl (Nat.le_of_ble_eq_true rfl) rfl ?_
          dsimp only [List.set]
          refine R_iinc (q := 45) rfl rfl rfl (nI_i1 k) rfl ?_
          dsimp only [List.set]
          refine R_goto (t := 22) rfl rfl ?_
          exact ih2 (k + 1) (by omega)
      refine R_iload_n (q := 7) rfl rfl rfl ?_
      refine R_iconst (q := 8) (v := nI 1) rfl rfl (by decide) ?_
      refine R_aload_n (q := 9) rfl rfl rfl ?_
      refine R_getf (q := 12) rfl rfl rfl md_73 rfl ?_
      rw [hI6]
      refine R_ishl (q := 13) rfl rfl ?_
      rw [shl1 n (by omega)]
      refine R_icmp_ge (q := 16) (t := 73) rfl rfl rfl (fun h13 => absurd h13 (nI_ge (by omega) (by omega))) (fun h13 => ?_)
      refine R_iconst (q := 17) (v := nI 0) rfl rfl (by decide) ?_
      refine R_istore (q := 19) rfl rfl (Nat.le_of_ble_eq_true rfl) rfl ?_
      dsimp only [List.set]
      refine R_iconst (q := 20) (v := nI 0) rfl rfl (by decide) ?_
      refine R_istore (q := 22) rfl rfl (Nat.le_of_ble_eq_true rfl) rfl ?_
      dsimp only [List.set]
      exact hk n 0 (by omega)
  refine R_iconst (q := 1) (v := nI 0) rfl rfl (by decide) ?_
  refine R_istore_n (q := 2) rfl rfl (Nat.le_of_ble_eq_true rfl) rfl ?_
  dsimp only [List.set]
  refine R_iconst (q := 3) (v := nI 0) rfl rfl (by decide) ?_
  refine R_istore_n (q := 4) rfl rfl (Nat.le_of_ble_eq_true rfl) rfl ?_
  dsimp only [List.set]
  refine R_iconst (q := 5) (v := nI 1) rfl rfl (by decide) ?_
  refine R_istore_n (q := 6) rfl rfl (Nat.le_of_ble_eq_true rfl) rfl ?_
  dsimp only [List.set]
  exact hs (2 ^ n - 1) 1 0 0 _ _ (by omega) BST_0 (by omega)
end P67
