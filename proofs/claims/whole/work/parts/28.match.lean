section P28
variable {S : mm_S} {d : Nat} {M : mm_M} {co ln st en to pa f : Nat → Int32} {ch tr lvI nI0 : Int32} {n lv a : Nat}
set_option maxRecDepth 8000 in
theorem c19 {s1 s2 : KS} (ha : CA M a f) (haa : a + 1 < 35 ∨ 41 < a) (h1 : lvy (fun y => rm f y &&& rowv f (nI y)) (fun y x => bt (ifl (cornv f) co 17 y) x) 15 1 (0, ln, st, en) = s1) (h2 : lvy (fun y => colv f (y - 1) 16 &&& colv f y 16) (fun x y => bt (ifl (cornv f) co 17 y) x) 15 1 s1 = s2) : mm_R S (d + 3) 19 0 (mm_en 19 [.ref 35, .ref a]) [] (chm M co ln st en to pa nI0 lvI ch tr) (fun v M' => v = none ∧ M' = chk M (ifl (cornv f) co 17) to pa (nI s1.1) (nI 0) tr s2) := by
  have hs1 : s1.1 ≤ 225 := by
    rw [← h1]
    exact lvy_le 15 1 (0, ln, st, en) 0 (Nat.le_refl _)
  show mm_R S (d + 3) 19 0 [some (.ref 35), some (.ref a)] [] (chm M co ln st en to pa nI0 lvI ch tr) _
  refine R_aload_n (q := 1) rfl rfl rfl ?_
  refine R_aload_n (q := 2) rfl rfl rfl ?_
  refine R_callv1 (q := 5) rfl rfl rfl rfl ch_35 (Nat.le_of_ble_eq_true rfl) rfl ?_
  refine R_mono (R_deep (c29 (d := 0) ha haa) (by omega)) (fun v2 M2 hr2 => ?_)
  obtain ⟨rfl, hm2⟩ := hr2
  rw [hm2]
  dsimp only [Option.toList, List.cons_append, List.nil_append]
  refine R_aload_n (q := 6) rfl rfl rfl ?_
  refine R_iconst (q := 7) (v := nI 0) rfl rfl (by decide) ?_
  refine R_putf (q := 10) rfl rfl rfl ch_35 (Nat.le_of_ble_eq_true rfl) rfl (fun hf => absurd hf (by decide)) rfl ?_
  dsimp only [List.set]
  rw [ch_p35]
  refine R_aload_n (q := 11) rfl rfl rfl ?_
  refine R_iconst (q := 12) (v := nI 0) rfl rfl (by decide) ?_
  refine R_putf (q := 15) rfl rfl rfl ch_35 (Nat.le_of_ble_eq_true rfl) rfl (fun hf => absurd hf (by decide)) rfl ?_
  dsimp only [List.set]
  rw [ch_p35]
  show mm_R S (d + 3) 19 15 _ [] (chk M (ifl (cornv f) co 17) to pa lvI (nI 0) tr (0, ln, st, en)) _
  refine R_aload_n (q := 16) rfl rfl rfl ?_
  refine R_aload_n (q := 17) rfl rfl rfl ?_
  refine R_callv1 (q := 20) rfl rfl rfl rfl rfl (Nat.le_of_ble_eq_true rfl) rfl ?_
  refine R_mono (c30 (s := (0, ln, st, en)) ha haa (by show 0 ≤ 600; omega)) (fun v17 M17 hr17 => ?_)
  obtain ⟨rfl, hm17⟩ := hr17
  rw [h1] at hm17
  rw [hm17]
  dsimp only [Option.toList, List.cons_append, List.nil_append]
  refine R_aload_n (q := 21) rfl rfl rfl ?_
  refine R_aload_n (q := 22) rfl rfl rfl ?_
  refine R_getf (q := 25) rfl rfl rfl rfl rfl ?_
  refine R_putf (q := 28) rfl rfl rfl rfl (Nat.le_of_ble_eq_true rfl) rfl (fun hf => absurd hf (by decide)) rfl ?_
  dsimp only [List.set]
  rw [show mm_put (chk M (ifl (cornv f) co 17) to pa lvI (nI 0) tr s1) 35 (chh (nI s1.1) (nI s1.1) (nI 0) tr) = chk M (ifl (cornv f) co 17) to pa (nI s1.1) (nI 0) tr s1 from ch_p35]
  refine R_aload_n (q := 29) rfl rfl rfl ?_
  refine R_aload_n (q := 30) rfl rfl rfl ?_
  refine R_callv1 (q := 33) rfl rfl rfl rfl rfl (Nat.le_of_ble_eq_true rfl) rfl ?_
  refine R_mono (c31 (s := s1) ha haa (by omega)) (fun v30 M30 hr30 => ?_)
  obtain ⟨rfl, hm30⟩ := hr30
  rw [h2] at hm30
  rw [hm30]
  dsimp only [Option.toList, List.cons_append, List.nil_append]
  refine R_return rfl rfl ?_
  exact ⟨rfl, rfl⟩
def tcb (ln st en : Nat → Int32) (i j : Nat) : Bool := decide ((st i ≤ ln j ∧ ln j ≤ en i) ∧ st j ≤ ln i ∧ ln i ≤ en j)
set_option maxRecDepth 8000 in
theorem c36 {i j : Nat} (hi : i < 14) (hj : j < 14) : mm_R S d 36 0 (mm_en 36 [.ref 35, .int (nI i), .int (nI j)]) [] (chm M co ln st en to pa (nI n) (nI lv) ch tr) (fun v M' => v = some (.int (zb (tcb ln st en i j))) ∧ M' = (chm M co ln st en to pa (nI n) (nI lv) ch tr)) := by
  unfold tcb
  show mm_R S d 36 0 [some (.ref 35), some (.int (nI i)), some (.int (nI j))] [] (chm M co ln st en to pa (nI n) (nI lv) ch tr) _
  refine R_aload_n (q := 1) rfl rfl rfl ?_
  refine R_getf (q := 4) rfl rfl rfl ch_35 rfl ?_
  refine R_iload_n (q := 5) rfl rfl rfl ?_
  refine R_iaload (q := 6) rfl rfl ch_37 (by omega) (by first | assumption | exact in_nI (by omega) (by decide)) ?_
  refine R_aload_n (q := 7) rfl rfl rfl ?_
  refine R_getf (q := 10) rfl rfl rfl ch_35 rfl ?_
  refine R_iload_n (q := 11) rfl rfl rfl ?_
  refine R_iaload (q := 12) rfl rfl ch_38 (by omega) (by first | assumption | exact in_nI (by omega) (by decide)) ?_
  simp only [cl_nI (show i < 2147483648 by omega), cl_nI (show j < 2147483648 by omega)]
  refine R_icmp_lt (q := 15) (t := 64) rfl rfl rfl (fun h12 => ?_) (fun h12 => ?_)
  · refine R_iconst (q := 65) (v := nI 0) rfl rfl (by decide) ?_
    refine R_zreturn rfl rfl (by first | exact Or.inl rfl | exact Or.inr rfl | assumption) ?_
    refine ⟨congrArg some (congrArg Value.int ?_), rfl⟩
    first | exact (zb_t (by simp only [i_lt, i_le] at *; omega)).symm | exact (zb_f (by simp only [i_lt, i_le] at *; omega)).symm
  · refine R_aload_n (q := 16) rfl rfl rfl ?_
    refine R_getf (q := 19) rfl rfl rfl ch_35 rfl ?_
    refine R_iload_n (q := 20) rfl rfl rfl ?_
    refine R_iaload (q := 21) rfl rfl ch_37 (by omega) (by first | assumption | exact in_nI (by omega) (by decide)) ?_
    refine R_aload_n (q := 22) rfl rfl rfl ?_
    refine R_getf (q := 25) rfl rfl rfl ch_35 rfl ?_
    refine R_iload_n (q := 26) rfl rfl rfl ?_
    refine R_iaload (q := 27) rfl rfl ch_39 (by omega) (by first | assumption | exact in_nI (by omega) (by decide)) ?_
    simp only [cl_nI (show i < 2147483648 by omega), cl_nI (show j < 2147483648 by omega)]
    refine R_icmp_gt (q := 30) (t := 64) rfl rfl rfl (fun h27 => ?_) (fun h27 => ?_)
    · refine R_iconst (q := 65) (v := nI 0) rfl rfl (by decide) ?_
      refine R_zreturn rfl rfl (by first | exact Or.inl rfl | exact Or.inr rfl | assumption) ?_
      refine ⟨congrArg some (congrArg Value.int ?_), rfl⟩
      first | exact (zb_t (by simp only [i_lt, i_le] at *; omega)).symm | exact (zb_f (by simp only [i_lt, i_le] at *; omega)).symm
    · refine R_aload_n (q := 31) rfl rfl rfl ?_
      refine R_getf (q := 34) rfl rfl rfl ch_35 rfl ?_
      refine R_iload_n (q := 35) rfl rfl rfl ?_
      refine R_iaload (q := 36) rfl rfl ch_37 (by omega) (by first | assumption | exact in_nI (by omega) (by decide)) ?_
      refine R_aload_n (q := 37) rfl rfl rfl ?_
      refine R_getf (q := 40) rfl rfl rfl ch_35 rfl ?_
      refine R_iload_n (q := 41) rfl rfl rfl ?_
      refine R_iaload (q := 42) rfl rfl ch_38 (by omega) (by first | assumption | exact in_nI (by omega) (by decide)) ?_
      simp only [cl_nI (show i < 2147483648 by omega), cl_nI (show j < 2147483648 by omega)]
      refine R_icmp_lt (q := 45) (t := 64) rfl rfl rfl (fun h42 => ?_) (fun h42 => ?_)
      · refine R_iconst (q := 65) (v := nI 0) rfl rfl (by decide) ?_
        refine R_zreturn rfl rfl (by first | exact Or.inl rfl | exact Or.inr rfl | assumption) ?_
        refine ⟨congrArg some (congrArg Value.int ?_), rfl⟩
        first | exact (zb_t (by simp only [i_lt, i_le] at *; omega)).symm | exact (zb_f (by simp only [i_lt, i_le] at *; omega)).symm
      · refine R_aload_n (q := 46) rfl rfl rfl ?_
        refine R_getf (q := 49) rfl rfl rfl ch_35 rfl ?_
        refine R_iload_n (q := 50) rfl rfl rfl ?_
        refine R_iaload (q := 51) rfl rfl ch_37 (by omega) (by first | assumption | exact in_nI (by omega) (by decide)) ?_
        refine R_aload_n (q := 52) rfl rfl rfl ?_
        refine R_getf (q := 55) rfl rfl rfl ch_35 rfl ?_
        refine R_iload_n (q := 56) rfl rfl rfl ?_
        refine R_iaload (q := 57) rfl rfl ch_39 (by omega) (by first | assumption | exact in_nI (by omega) (by decide)) ?_
        simp only [cl_nI (show i < 2147483648 by omega), cl_nI (show j < 2147483648 by omega)]
        refine R_icmp_gt (q := 60) (t := 64) rfl rfl rfl (fun h57 => ?_) (fun h57 => ?_)
        · refine R_iconst (q := 65) (v := nI 0) rfl rfl (by decide) ?_
          refine R_zreturn rfl rfl (by first | exact Or.inl rfl | exact Or.inr rfl | assumption) ?_
          refine ⟨congrArg some (congrArg Value.int ?_), rfl⟩
          first | exact (zb_t (by simp only [i_lt, i_le] at *; omega)).symm | exact (zb_f (by simp only [i_lt, i_le] at *; omega)).symm
        · refine R_iconst (q := 61) (v := nI 1) rfl rfl (by decide) ?_
          refine R_goto (t := 65) rfl rfl ?_
          refine R_zreturn rfl rfl (by first | exact Or.inl rfl | exact Or.inr rfl | assumption) ?_
          refine ⟨congrArg some (congrArg Value.int ?_), rfl⟩
          first | exact (zb_t (by simp only [i_lt, i_le] at *; omega)).symm | exact (zb_f (by simp only [i_lt, i_le] at *; omega)).symm
def tpair (T : Nat → Int32) (i j : Nat) : Nat → Int32 := upd (upd T i (T i ||| nI 1 <<< (nI j &&& 31))) j (upd T i (T i ||| nI 1 <<< (nI j &&& 31)) j ||| nI 1 <<< (nI i &&& 31))
def tj (ln st en : Nat → Int32) (i : Nat) : Nat → Nat → (Nat → Int32) → Nat → Int32
  | 0, _, T => T
  | k + 1, j, T => tj ln st en i k (j + 1) (if tcb ln st en i j = true then tpair T i j else T)
def ti (ln st en : Nat → Int32) (n lv : Nat) : Nat → Nat → (Nat → Int32) → Nat → Int32
  | 0, _, T => T
  | k + 1, i, T => ti ln st en n lv k (i + 1) (tj ln st en i (n - lv) lv T)
set_option maxRecDepth 8000 in
theorem c35_loop (hn : n ≤ 14) (hlv : lv ≤ n) : ∀ (k i : Nat) (T : Nat → Int32) (t2 : Option Value), i + k = lv → mm_R S (d + 1) 35 25 [some (.ref 35), some (.int (nI i)), t2] [] (chm M co ln st en T pa (nI n) (nI lv) ch tr) (fun v M' => v = none ∧ M' = (chm M co ln st en (ti ln st en n lv k i T) pa (nI n) (nI lv) ch tr)) := by
  intro k
  induction k with
  | zero =>
    intro i T t2 hi
    refine R_iload_n (q := 26) rfl rfl rfl ?_
    refine R_aload_n (q := 27) rfl rfl rfl ?_
    refine R_getf (q := 30) rfl rfl rfl ch_35 rfl ?_
    refine R_icmp_ge (q := 33) (t := 91) rfl rfl rfl (fun h30 => ?_) (fun h30 => absurd (nI_le (by omega) (by omega)) h30)
    refine R_return rfl rfl ?_
    exact ⟨rfl, rfl⟩
  | succ k ih =>
    intro i T t2 hi
    have hin : ∀ (j0 j : Nat) (T : Nat → Int32), j + j0 = n → lv ≤ j → mm_R S (d + 1) 35 38 [some (.ref 35), some (.int (nI i)), some (.int (nI j))] [] (chm M co ln st en T pa (nI n) (nI lv) ch tr) (fun v M' => v = none ∧ M' = (chm M co ln st en (ti ln st en n lv k (i + 1) (tj ln st en i j0 j T)) pa (nI n) (nI lv) ch tr)) := by
      intro j0
      induction j0 with
      | zero =>
        intro j T hj hj1
        refine R_iload_n (q := 39) rfl rfl rfl ?_
        refine R_aload_n (q := 40) rfl rfl rfl ?_
        refine R_getf (q := 43) rfl rfl rfl ch_35 rfl ?_
        refine R_icmp_ge (q := 46) (t := 85) rfl rfl rfl (fun h43 => ?_) (fun h43 => absurd (nI_le (by omega) (by omega)) h43)
        refine R_iinc (q := 88) rfl rfl rfl (nI_i1 i) rfl ?_
        dsimp only [List.set]
        refine R_goto (t := 25) rfl rfl ?_
        exact ih (i + 1) T _ (by omega)
      | succ j0 ihj =>
        intro j T hj hj1
        have hk := ihj (j + 1) (if tcb ln st en i j = true then tpair T i j else T) (by omega) (by omega)
        have hst : tj ln st en i (j0 + 1) j T = tj ln st en i j0 (j + 1) (if tcb ln st en i j = true then tpair T i j else T) := rfl
        rw [hst]
        refine R_iload_n (q := 39) rfl rfl rfl ?_
        refine R_aload_n (q := 40) rfl rfl rfl ?_
        refine R_getf (q := 43) rfl rfl rfl ch_35 rfl ?_
        refine R_icmp_ge (q := 46) (t := 85) rfl rfl rfl (fun h43 => absurd h43 (nI_ge (by omega) (by omega))) (fun h43 => ?_)
        refine R_aload_n (q := 47) rfl rfl rfl ?_
        refine R_iload_n (q := 48) rfl rfl rfl ?_
        refine R_iload_n (q := 49) rfl rfl rfl ?_
        refine R_callv2 (q := 52) rfl rfl rfl rfl ch_35 (Nat.le_of_ble_eq_true rfl) rfl ?_
        refine R_mono (c36 (by omega) (by omega)) (fun v49 M49 hr49 => ?_)
        obtain ⟨rfl, hm49⟩ := hr49
        rw [hm49]
        dsimp only [Option.toList, List.cons_append, List.nil_append]
        refine R_if_eq (q := 55) (t := 79) rfl rfl rfl (fun h52 => ?_) (fun h52 => ?_)
        · refine R_iinc (q := 82) rfl rfl rfl (nI_i1 j) rfl ?_
          dsimp only [List.set]
          refine R_goto (t := 38) rfl rfl ?_
          first
            | (rw [if_pos (zb_ne0.mp h52)] at hk ⊢
               exact hk)
            | (rw [if_neg (by rw [zb_eq0.mp h52]; decide)] at hk ⊢
               exact hk)
        · refine R_aload_n (q := 56) rfl rfl rfl ?_
          refine R_getf (q := 59) rfl rfl rfl ch_35 rfl ?_
          refine R_iload_n (q := 60) rfl rfl rfl ?_
          refine R_dup2 (q := 61) rfl rfl ?_
          refine R_iaload (q := 62) rfl rfl ch_40 (by omega) (by first | assumption | exact in_nI (by omega) (by decide)) ?_
          rw [cl_nI (by omega)]
          refine R_iconst (q := 63) (v := nI 1) rfl rfl (by decide) ?_
          refine R_iload_n (q := 64) rfl rfl rfl ?_
          refine R_ishl (q := 65) rfl rfl ?_
          refine R_ior (q := 66) rfl rfl ?_
          refine R_iastore (q := 67) rfl rfl ch_40 (by first | assumption | exact in_nI (by omega) (by decide)) ?_
          rw [cl_nI (by omega), ch_p40]
          refine R_aload_n (q := 68) rfl rfl rfl ?_
          refine R_getf (q := 71) rfl rfl rfl ch_35 rfl ?_
          refine R_iload_n (q := 72) rfl rfl rfl ?_
          refine R_dup2 (q := 73) rfl rfl ?_
          refine R_iaload (q := 74) rfl rfl ch_40 (by omega) (by first | assumption | exact in_nI (by omega) (by decide)) ?_
          rw [cl_nI (by omega)]
          refine R_iconst (q := 75) (v := nI 1) rfl rfl (by decide) ?_
          refine R_iload_n (q := 76) rfl rfl rfl ?_
          refine R_ishl (q := 77) rfl rfl ?_
          refine R_ior (q := 78) rfl rfl ?_
          refine R_iastore (q := 79) rfl rfl ch_40 (by first | assumption | exact in_nI (by omega) (by decide)) ?_
          rw [cl_nI (by omega), ch_p40]
          refine R_iinc (q := 82) rfl rfl rfl (nI_i1 j) rfl ?_
          dsimp only [List.set]
          refine R_goto (t := 38) rfl rfl ?_
          first
            | (rw [if_pos (zb_ne0.mp h52)] at hk ⊢
               exact hk)
            | (rw [if_neg (by rw [zb_eq0.mp h52]; decide)] at hk ⊢
               exact hk)
    refine R_iload_n (q := 26) rfl rfl rfl ?_
    refine R_aload_n (q := 27) rfl rfl rfl ?_
    refine R_getf (q := 30) rfl rfl rfl ch_35 rfl ?_
    refine R_icmp_ge (q := 33) (t := 91) rfl rfl rfl (fun h30 => absurd h30 (nI_ge (by omega) (by omega))) (fun h30 => ?_)
    refine R_aload_n (q := 34) rfl rfl rfl ?_
    refine R_getf (q := 37) rfl rfl rfl ch_35 rfl ?_
    refine R_istore_n (q := 38) rfl rfl (Nat.le_of_ble_eq_true rfl) rfl ?_
    dsimp only [List.set]
    exact hin (n - lv) lv T (by omega) (Nat.le_refl _)
set_option maxRecDepth 8000 in
theorem c35 (hn : n ≤ 14) (hlv : lv ≤ n) : mm_R S (d + 1) 35 0 (mm_en 35 [.ref 35]) [] (chm M co ln st en to pa (nI n) (nI lv) ch tr) (fun v M' => v = none ∧ M' = (chm M co ln st en (ti ln st en n lv lv 0 (ifl (fun _ => nI 0) to n)) pa (nI n) (nI lv) ch tr)) := by
  show mm_R S (d + 1) 35 0 [some (.ref 35), none, none] [] (chm M co ln st en to pa (nI n) (nI lv) ch tr) _
  refine R_iconst (q := 1) (v := nI 0) rfl rfl (by decide) ?_
  refine R_istore_n (q := 2) rfl rfl (Nat.le_of_ble_eq_true rfl) rfl ?_
  dsimp only [List.set]
  refine R_atM (M' := (chm M co ln st en (ifl (fun _ => nI 0) to 0) pa (nI n) (nI lv) ch tr)) (by rw [ifl_0]) ?_
  refine lpN (fun j => mm_R S (d + 1) 35 2 [some (.ref 35), some (.int (nI j)), none] [] (chm M co ln st en (ifl (fun _ => nI 0) to j) pa (nI n) (nI lv) ch tr) (fun v M' => v = none ∧ M' = (chm M co ln st en (ti ln st en n lv lv 0 (ifl (fun _ => nI 0) to n)) pa (nI n) (nI lv) ch tr))) n (fun j hj ih => ?_) ?_ 0 (Nat.zero_le _)
  · skip
    refine R_iload_n (q := 3) rfl rfl rfl ?_
    refine R_aload_n (q := 4) rfl rfl rfl ?_
    refine R_getf (q := 7) rfl rfl rfl ch_35 rfl ?_
    refine R_icmp_ge (q := 10) (t := 23) rfl rfl rfl (fun h7 => absurd h7 (nI_ge hj (by omega))) (fun h7 => ?_)
    refine R_aload_n (q := 11) rfl rfl rfl ?_
    refine R_getf (q := 14) rfl rfl rfl ch_35 rfl ?_
    refine R_iload_n (q := 15) rfl rfl rfl ?_
    refine R_iconst (q := 16) (v := nI 0) rfl rfl (by decide) ?_
    refine R_iastore (q := 17) rfl rfl ch_40 (by first | assumption | exact in_nI (by omega) (by decide)) ?_
    refine R_iinc (q := 20) rfl rfl rfl (nI_i1 j) rfl ?_
    dsimp only [List.set]
    refine R_goto (t := 2) rfl rfl ?_
    refine R_atM ?_ ih
    rw [ch_p40, cl_nI (by omega)]
    exact (congrArg (fun z => chm M co ln st en z pa (nI n) (nI lv) ch tr) (ifl_s (n := fun _ => nI 0))).symm
  · refine R_iload_n (q := 3) rfl rfl rfl ?_
    refine R_aload_n (q := 4) rfl rfl rfl ?_
    refine R_getf (q := 7) rfl rfl rfl ch_35 rfl ?_
    refine R_icmp_ge (q := 10) (t := 23) rfl rfl rfl (fun h7 => ?_) (fun h7 => absurd (nI_le (Nat.le_refl _) (by omega)) h7)
    refine R_iconst (q := 24) (v := nI 0) rfl rfl (by decide) ?_
    refine R_istore_n (q := 25) rfl rfl (Nat.le_of_ble_eq_true rfl) rfl ?_
    dsimp only [List.set]
    exact c35_loop hn hlv lv 0 _ _ (by omega)
abbrev PS : Type := (Nat → Int32) × Int32
def fpl (to : Nat → Int32) (among : Int32) (i : Nat) (rec : Nat → PS → Bool × PS) : Nat → Nat → PS → Bool × PS
  | 0, _, s => (false, s)
  | k + 1, j, s => if bt ((to i &&& among) &&& (s.2 ^^^ (-1))) j = true then
      (if s.1 j = (-1) then (true, (upd s.1 j (nI i), s.2 ||| nI 1 <<< (nI j &&& 31)))
       else if (rec (s.1 j).toNatClampNeg (s.1, s.2 ||| nI 1 <<< (nI j &&& 31))).1 = true then (true, (upd (rec (s.1 j).toNatClampNeg (s.1, s.2 ||| nI 1 <<< (nI j &&& 31))).2.1 j (nI i), (rec (s.1 j).toNatClampNeg (s.1, s.2 ||| nI 1 <<< (nI j &&& 31))).2.2))
       else fpl to among i rec k (j + 1) (rec (s.1 j).toNatClampNeg (s.1, s.2 ||| nI 1 <<< (nI j &&& 31))).2)
    else fpl to among i rec k (j + 1) s
def fp (to : Nat → Int32) (among : Int32) (n lv : Nat) : Nat → Nat → PS → Bool × PS
  | 0 => fun _ s => (false, s)
  | q + 1 => fun i s => fpl to among i (fp to among n lv q) (n - lv) lv s
def okp (p : Nat → Int32) : Prop := ∀ j, j < 14 → p j = (-1) ∨ ∃ i, i < 14 ∧ p j = nI i
theorem okp_upd {p : Nat → Int32} {j i : Nat} (h : okp p) (hi : i < 14) : okp (upd p j (nI i)) := by
  intro k hk
  unfold upd
  split
  · exact Or.inr ⟨i, hi, rfl⟩
  · exact h k hk
theorem fpl_ok {to : Nat → Int32} {among : Int32} {i : Nat} {rec : Nat → PS → Bool × PS} (hi : i < 14) (hrec : ∀ i s, i < 14 → okp s.1 → okp (rec i s).2.1) : ∀ k j s, j + k ≤ 14 → okp s.1 → okp (fpl to among i rec k j s).2.1 := by
  intro k
  induction k with
  | zero => intro j s _ h; exact h
  | succ k ih =>
    intro j s hj h
    unfold fpl
    split
    · split
      · exact okp_upd h hi
      · next hne =>
        obtain ⟨i', hi', e'⟩ := (h j (by omega)).resolve_left hne
        have hr := hrec (s.1 j).toNatClampNeg (s.1, s.2 ||| nI 1 <<< (nI j &&& 31)) (by rw [e', cl_nI (by omega)]; exact hi') h
        split
        · exact okp_upd hr hi
        · exact ih (j + 1) _ (by omega) hr
    · exact ih (j + 1) s (by omega) h
theorem fp_ok {to : Nat → Int32} {among : Int32} {n lv : Nat} (hn : n ≤ 14) (hlv : lv ≤ n) : ∀ q i s, i < 14 → okp s.1 → okp (fp to among n lv q i s).2.1 := by
  intro q
  induction q with
  | zero => intro i s _ h; exact h
  | succ q ih => intro i s hi h; exact fpl_ok hi ih (n - lv) lv s (by omega) h
def chp (M : mm_M) (co ln st en to : Nat → Int32) (n lv ch : Int32) (s : PS) : mm_M := chm M co ln st en to s.1 n lv ch s.2
set_option maxRecDepth 8000 in
theorem c38_loop {among : Int32} {q i dep : Nat} (hn : n ≤ 14) (hlv : lv ≤ n) (hi : i < 14) (hdep : dep + q = 14)
    (ih : ∀ (i : Nat) (s : PS), i < 14 → okp s.1 → mm_R S (d + 1 + q) 38 0 (mm_en 38 [.ref 35, .int (nI i), .int among, .int (nI (dep + 1))]) [] (chp M co ln st en to (nI n) (nI lv) ch s) (fun v M' => v = some (.int (zb (fp to among n lv q i s).1)) ∧ M' = chp M co ln st en to (nI n) (nI lv) ch (fp to among n lv q i s).2)) : ∀ (k j : Nat) (s : PS), j + k = n → lv ≤ j → okp s.1 → mm_R S (d + 1 + q + 1) 38 14 [some (.ref 35), some (.int (nI i)), some (.int among), some (.int (nI dep)), some (.int (nI j))] [] (chp M co ln st en to (nI n) (nI lv) ch s) (fun v M' => v = some (.int (zb (fpl to among i (fp to among n lv q) k j s).1)) ∧ M' = chp M co ln st en to (nI n) (nI lv) ch (fpl to among i (fp to among n lv q) k j s).2) := by
  intro k
  induction k with
  | zero =>
    intro j s hj hj1 hs
    refine R_iload (q := 16) rfl rfl rfl ?_
    refine R_aload_n (q := 17) rfl rfl rfl ?_
    refine R_getf (q := 20) rfl rfl rfl rfl rfl ?_
    refine R_icmp_ge (q := 23) (t := 107) rfl rfl rfl (fun h20 => ?_) (fun h20 => absurd (nI_le (by omega) (by omega)) h20)
    refine R_iconst (q := 108) (v := nI 0) rfl rfl (by decide) ?_
    refine R_zreturn rfl rfl (by first | exact Or.inl rfl | exact Or.inr rfl | assumption) ?_
    exact ⟨rfl, rfl⟩
  | succ k ihk =>
    intro j s hj hj1 hs
    obtain ⟨sp, sr⟩ := s
    have hs : okp sp := hs
    have hst : fpl to among i (fp to among n lv q) (k + 1) j (sp, sr) = (if bt ((to i &&& among) &&& (sr ^^^ (-1))) j = true then
      (if sp j = (-1) then (true, (upd sp j (nI i), sr ||| nI 1 <<< (nI j &&& 31)))
       else if (fp to among n lv q (sp j).toNatClampNeg (sp, sr ||| nI 1 <<< (nI j &&& 31))).1 = true then (true, (upd (fp to among n lv q (sp j).toNatClampNeg (sp, sr ||| nI 1 <<< (nI j &&& 31))).2.1 j (nI i), (fp to among n lv q (sp j).toNatClampNeg (sp, sr ||| nI 1 <<< (nI j &&& 31))).2.2))
       else fpl to among i (fp to among n lv q) k (j + 1) (fp to among n lv q (sp j).toNatClampNeg (sp, sr ||| nI 1 <<< (nI j &&& 31))).2)
    else fpl to among i (fp to among n lv q) k (j + 1) (sp, sr)) := rfl
    rw [hst]
    show mm_R S (d + 1 + q + 1) 38 14 [some (.ref 35), some (.int (nI i)), some (.int among), some (.int (nI dep)), some (.int (nI j))] [] (chm M co ln st en to sp (nI n) (nI lv) ch sr) _
    refine R_iload (q := 16) rfl rfl rfl ?_
    refine R_aload_n (q := 17) rfl rfl rfl ?_
    refine R_getf (q := 20) rfl rfl rfl ch_35 rfl ?_
    refine R_icmp_ge (q := 23) (t := 107) rfl rfl rfl (fun h20 => absurd h20 (nI_ge (by omega) (by omega))) (fun h20 => ?_)
    refine R_aload_n (q := 24) rfl rfl rfl ?_
    refine R_getf (q := 27) rfl rfl rfl ch_35 rfl ?_
    refine R_iload_n (q := 28) rfl rfl rfl ?_
    refine R_iaload (q := 29) rfl rfl ch_40 (by omega) (by first | assumption | exact in_nI (by omega) (by decide)) ?_
    rw [cl_nI (by omega)]
    refine R_iload_n (q := 30) rfl rfl rfl ?_
    refine R_iand (q := 31) rfl rfl ?_
    refine R_aload_n (q := 32) rfl rfl rfl ?_
    refine R_getf (q := 35) rfl rfl rfl ch_35 rfl ?_
    refine R_iconst (q := 36) (v := (-1)) rfl rfl (by decide) ?_
    refine R_ixor (q := 37) rfl rfl ?_
    refine R_iand (q := 38) rfl rfl ?_
    refine R_iload (q := 40) rfl rfl rfl ?_
    refine R_calls2 (q := 43) rfl rfl rfl rfl (Nat.le_of_ble_eq_true rfl) rfl ?_
    refine R_mono (c142 (by omega)) (fun v40 M40 hr40 => ?_)
    obtain ⟨rfl, hm40⟩ := hr40
    rw [hm40]
    dsimp only [Option.toList, List.cons_append, List.nil_append]
    refine R_if_ne (q := 46) (t := 49) rfl rfl rfl (fun h43 => ?_) (fun h43 => ?_)
    · have h43t := zb_ne0.mp h43
      refine R_aload_n (q := 50) rfl rfl rfl ?_
      first | refine R_dupa (q := 51) rfl rfl ?_ | refine R_dupi (q := 51) rfl rfl ?_
      refine R_getf (q := 54) rfl rfl rfl ch_35 rfl ?_
      refine R_iconst (q := 55) (v := nI 1) rfl rfl (by decide) ?_
      refine R_iload (q := 57) rfl rfl rfl ?_
      refine R_ishl (q := 58) rfl rfl ?_
      refine R_ior (q := 59) rfl rfl ?_
      refine R_putf (q := 62) rfl rfl rfl ch_35 (Nat.le_of_ble_eq_true rfl) rfl (fun hf => absurd hf (by decide)) rfl ?_
      dsimp only [List.set]
      rw [ch_p35]
      refine R_aload_n (q := 63) rfl rfl rfl ?_
      refine R_getf (q := 66) rfl rfl rfl ch_35 rfl ?_
      refine R_iload (q := 68) rfl rfl rfl ?_
      refine R_iaload (q := 69) rfl rfl ch_41 (by omega) (by first | assumption | exact in_nI (by omega) (by decide)) ?_
      rw [cl_nI (by omega)]
      refine R_iconst (q := 70) (v := (-1)) rfl rfl (by decide) ?_
      refine R_icmp_eq (q := 73) (t := 91) rfl rfl rfl (fun h70 => ?_) (fun h70 => ?_)
      · refine R_aload_n (q := 92) rfl rfl rfl ?_
        refine R_getf (q := 95) rfl rfl rfl ch_35 rfl ?_
        refine R_iload (q := 97) rfl rfl rfl ?_
        refine R_iload_n (q := 98) rfl rfl rfl ?_
        refine R_iastore (q := 99) rfl rfl ch_41 (by first | assumption | exact in_nI (by omega) (by decide)) ?_
        rw [cl_nI (by omega), ch_p41]
        refine R_iconst (q := 100) (v := nI 1) rfl rfl (by decide) ?_
        refine R_zreturn rfl rfl (by first | exact Or.inl rfl | exact Or.inr rfl | assumption) ?_
        rw [if_pos h43t, if_pos h70]
        exact ⟨rfl, rfl⟩
      · obtain ⟨i2, hi2, e2⟩ := (hs j (by omega)).resolve_left h70
        refine R_aload_n (q := 74) rfl rfl rfl ?_
        refine R_aload_n (q := 75) rfl rfl rfl ?_
        refine R_getf (q := 78) rfl rfl rfl ch_35 rfl ?_
        refine R_iload (q := 80) rfl rfl rfl ?_
        refine R_iaload (q := 81) rfl rfl ch_41 (by omega) (by first | assumption | exact in_nI (by omega) (by decide)) ?_
        rw [cl_nI (by omega)]
        refine R_iload_n (q := 82) rfl rfl rfl ?_
        refine R_iload_n (q := 83) rfl rfl rfl ?_
        refine R_iconst (q := 84) (v := nI 1) rfl rfl (by decide) ?_
        refine R_iadd (q := 85) rfl rfl ?_
        rw [nI_add]
        rw [e2]
        rw [e2] at h70
        refine R_callv3 (q := 88) rfl rfl rfl rfl ch_35 (Nat.le_of_ble_eq_true rfl) rfl ?_
        refine R_mono (ih i2 (sp, sr ||| nI 1 <<< (nI j &&& 31)) hi2 hs) (fun v85 M85 hr85 => ?_)
        obtain ⟨rfl, hm85⟩ := hr85
        rw [hm85]
        rw [if_pos h43t, if_neg h70, cl_nI (by omega)]
        have hok := fp_ok (to := to) (among := among) hn hlv q i2 (sp, sr ||| nI 1 <<< (nI j &&& 31)) hi2 hs
        generalize fp to among n lv q i2 (sp, sr ||| nI 1 <<< (nI j &&& 31)) = R at *
        obtain ⟨rb, rp, rt⟩ := R
        dsimp only [Option.toList, List.cons_append, List.nil_append]
        show mm_R S (d + 1 + q + 1) 38 88 [some (.ref 35), some (.int (nI i)), some (.int among), some (.int (nI dep)), some (.int (nI j))] [.int (zb rb)] (chm M co ln st en to rp (nI n) (nI lv) ch rt) _
        refine R_if_eq (q := 91) (t := 101) rfl rfl rfl (fun h88 => ?_) (fun h88 => ?_)
        · have eb := zb_eq0.mp h88
          subst eb
          rw [if_neg (by decide)]
          refine R_iinc (q := 104) rfl rfl rfl (nI_i1 j) rfl ?_
          dsimp only [List.set]
          refine R_goto (t := 14) rfl rfl ?_
          exact ihk (j + 1) (rp, rt) (by omega) (by omega) hok
        · have eb := zb_ne0.mp h88
          subst eb
          rw [if_pos rfl]
          refine R_aload_n (q := 92) rfl rfl rfl ?_
          refine R_getf (q := 95) rfl rfl rfl ch_35 rfl ?_
          refine R_iload (q := 97) rfl rfl rfl ?_
          refine R_iload_n (q := 98) rfl rfl rfl ?_
          refine R_iastore (q := 99) rfl rfl ch_41 (in_nI (by omega) (by decide)) ?_
          rw [cl_nI (by omega), ch_p41]
          refine R_iconst (q := 100) (v := nI 1) rfl rfl (by decide) ?_
          refine R_zreturn rfl rfl (Or.inr rfl) ?_
          exact ⟨rfl, rfl⟩
    · have h43f : ¬ bt ((to i &&& among) &&& (sr ^^^ (-1))) j = true := by rw [zb_eq0.mp h43]; decide
      refine R_goto (t := 101) rfl rfl ?_
      refine R_iinc (q := 104) rfl rfl rfl (nI_i1 j) rfl ?_
      dsimp only [List.set]
      refine R_goto (t := 14) rfl rfl ?_
      rw [if_neg h43f]
      exact ihk (j + 1) (sp, sr) (by omega) (by omega) hs
set_option maxRecDepth 8000 in
theorem c38 {among : Int32} (hn : n ≤ 14) (hlv : lv ≤ n) : ∀ (q i dep : Nat) (s : PS), dep + q = 15 → i < 14 → okp s.1 → mm_R S (d + 1 + q) 38 0 (mm_en 38 [.ref 35, .int (nI i), .int among, .int (nI dep)]) [] (chp M co ln st en to (nI n) (nI lv) ch s) (fun v M' => v = some (.int (zb (fp to among n lv q i s).1)) ∧ M' = chp M co ln st en to (nI n) (nI lv) ch (fp to among n lv q i s).2) := by
  intro q
  induction q with
  | zero =>
    intro i dep s hdep hi hs
    show mm_R S (d + 1) 38 0 [some (.ref 35), some (.int (nI i)), some (.int among), some (.int (nI dep)), none] [] (chp M co ln st en to (nI n) (nI lv) ch s) _
    refine R_iload_n (q := 1) rfl rfl rfl ?_
    refine R_bipush (q := 3) (v := nI 14) rfl rfl (by decide) ?_
    refine R_icmp_le (q := 6) (t := 8) rfl rfl rfl (fun h3 => absurd h3 (nI_ge (by omega) (by omega))) (fun h3 => ?_)
    refine R_iconst (q := 7) (v := nI 0) rfl rfl (by decide) ?_
    refine R_zreturn rfl rfl (by first | exact Or.inl rfl | exact Or.inr rfl | assumption) ?_
    exact ⟨rfl, rfl⟩
  | succ q ih =>
    intro i dep s hdep hi hs
    have hl := c38_loop (S := S) (d := d) (M := M) (co := co) (ln := ln) (st := st) (en := en) (to := to) (ch := ch) (among := among) (q := q) (dep := dep) hn hlv hi (by omega) (fun i s hi hs => ih i (dep + 1) s (by omega) hi hs) (n - lv) lv s (by omega) (Nat.le_refl _) hs
    show mm_R S (d + 1 + q + 1) 38 0 [some (.ref 35), some (.int (nI i)), some (.int among), some (.int (nI dep)), none] [] (chp M co ln st en to (nI n) (nI lv) ch s) _
    refine R_iload_n (q := 1) rfl rfl rfl ?_
    refine R_bipush (q := 3) (v := nI 14) rfl rfl (by decide) ?_
    refine R_icmp_le (q := 6) (t := 8) rfl rfl rfl (fun h3 => ?_) (fun h3 => absurd (nI_le (by omega) (by omega)) h3)
    refine R_aload_n (q := 9) rfl rfl rfl ?_
    refine R_getf (q := 12) rfl rfl rfl rfl rfl ?_
    refine R_istore (q := 14) rfl rfl (Nat.le_of_ble_eq_true rfl) rfl ?_
    dsimp only [List.set]
    exact hl
end P28
