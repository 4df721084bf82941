def qcs (lv : Nat) (ch : Int32) (A B C : Nat → Nat) : Nat → Nat → QS → QS
  | 0, _, q => q
  | k + 1, i, q => qcs lv ch A B C k (i + 1) (if bt ch i = true then qch q (decide (i < lv)) (A i) (B i) (C i) else q)
def qcx (inn : Int32) (y : Nat) : Nat → Nat → QS → QS
  | 0, _, q => q
  | k + 1, x, q => qcx inn y k (x + 1) (if bt (q.2.2.2 y) x = true then qfrom q x y inn else q)
def qcy (I : Nat → Int32) : Nat → Nat → QS → QS
  | 0, _, q => q
  | k + 1, y, q => qcy I k (y + 1) (qcx (I y) y 15 1 q)
section P31
variable {S : mm_S} {d : Nat} {M : mm_M} {co ln st en to pa f lc uc cp oc : Nat → Int32} {ch tr nI0 lvI : Int32} {n lv a : Nat}
theorem row17_nI {c : Nat → Int32} {y : Nat} (h : y ≤ 16) : row17 c (nI y) = c y := by
  unfold row17
  rw [if_pos (by rw [i_n y (by omega)]; omega), cl_nI (by omega)]
set_option maxRecDepth 8000 in
theorem c40_c (h : CUF M) (ha : CA M a f) (haa : a + 1 < 43 ∨ 46 < a) : ∀ (k y : Nat) (q : QS) (t4 : Option Value), y + k = 16 → 1 ≤ y → mm_R S (d + 3) 40 78 [some (.ref 42), some (.ref a), some (.ref 35), some (.int (nI y)), t4] [] (ctm M q) (fun v M' => v = none ∧ M' = ctm M (qcy (fun y => rm f y &&& rowv f (nI y)) k y q)) := by
  intro k
  induction k with
  | zero =>
    intro y q t4 hy hy1
    refine R_iload_n (q := 79) rfl rfl rfl ?_
    refine R_bipush (q := 81) (v := nI 16) rfl rfl (by decide) ?_
    refine R_icmp_ge (q := 84) (t := 140) rfl rfl rfl (fun h81 => ?_) (fun h81 => absurd (nI_le (by omega) (by omega)) h81)
    refine R_return rfl rfl ?_
    exact ⟨rfl, rfl⟩
  | succ k ih =>
    intro y q t4 hy hy1
    have hin : ∀ (j x : Nat) (q : QS), x + j = 16 → 1 ≤ x → mm_R S (d + 3) 40 87 [some (.ref 42), some (.ref a), some (.ref 35), some (.int (nI y)), some (.int (nI x))] [] (ctm M q) (fun v M' => v = none ∧ M' = ctm M (qcy (fun y => rm f y &&& rowv f (nI y)) k (y + 1) (qcx (rm f y &&& rowv f (nI y)) y j x q))) := by
      intro j
      induction j with
      | zero =>
        intro x q hx hx1
        refine R_iload (q := 89) rfl rfl rfl ?_
        refine R_bipush (q := 91) (v := nI 16) rfl rfl (by decide) ?_
        refine R_icmp_ge (q := 94) (t := 134) rfl rfl rfl (fun h91 => ?_) (fun h91 => absurd (nI_le (by omega) (by omega)) h91)
        refine R_iinc (q := 137) rfl rfl rfl (nI_i1 y) rfl ?_
        dsimp only [List.set]
        refine R_goto (t := 78) rfl rfl ?_
        exact ih (y + 1) q _ (by omega) (by omega)
      | succ j ihj =>
        intro x q hx hx1
        obtain ⟨lc, uc, cp, oc⟩ := q
        have h42 := ct_42 (q := (lc, uc, cp, oc)) h
        have hca := ct_CA (q := (lc, uc, cp, oc)) ha haa
        have hca1 := hca.1
        have hst : qcx (rm f y &&& rowv f (nI y)) y (j + 1) x (lc, uc, cp, oc) = qcx (rm f y &&& rowv f (nI y)) y j (x + 1) (if bt (oc y) x = true then qfrom (lc, uc, cp, oc) x y (rm f y &&& rowv f (nI y)) else (lc, uc, cp, oc)) := rfl
        rw [hst]
        refine R_iload (q := 89) rfl rfl rfl ?_
        refine R_bipush (q := 91) (v := nI 16) rfl rfl (by decide) ?_
        refine R_icmp_ge (q := 94) (t := 134) rfl rfl rfl (fun h91 => absurd h91 (nI_ge (by omega) (by omega))) (fun h91 => ?_)
        refine R_aload_n (q := 95) rfl rfl rfl ?_
        refine R_getf (q := 98) rfl rfl rfl (ct_42 h) rfl ?_
        refine R_iload_n (q := 99) rfl rfl rfl ?_
        refine R_iaload (q := 100) rfl rfl ct_46 (by omega) (by first | assumption | exact in_nI (by omega) (by decide)) ?_
        rw [cl_nI (by omega)]
        refine R_iload (q := 102) rfl rfl rfl ?_
        refine R_calls2 (q := 105) rfl rfl rfl rfl (Nat.le_of_ble_eq_true rfl) rfl ?_
        refine R_mono (c142 (by omega)) (fun v102 M102 hr102 => ?_)
        obtain ⟨rfl, hm102⟩ := hr102
        rw [hm102]
        dsimp only [Option.toList, List.cons_append, List.nil_append]
        refine R_if_eq (q := 108) (t := 128) rfl rfl rfl (fun h105 => ?_) (fun h105 => ?_)
        · refine R_iinc (q := 131) rfl rfl rfl (nI_i1 x) rfl ?_
          dsimp only [List.set]
          refine R_goto (t := 87) rfl rfl ?_
          first
            | (rw [if_pos (zb_ne0.mp h105)]
               exact ihj (x + 1) _ (by omega) (by omega))
            | (rw [if_neg (by rw [zb_eq0.mp h105]; decide)]
               exact ihj (x + 1) (lc, uc, cp, oc) (by omega) (by omega))
        · refine R_aload_n (q := 109) rfl rfl rfl ?_
          refine R_iload (q := 111) rfl rfl rfl ?_
          refine R_iload_n (q := 112) rfl rfl rfl ?_
          refine R_aload_n (q := 113) rfl rfl rfl ?_
          refine R_iload_n (q := 114) rfl rfl rfl ?_
          refine R_iconst (q := 115) (v := nI 1) rfl rfl (by decide) ?_
          refine R_isub (q := 116) rfl rfl ?_
          refine R_callv1 (q := 119) rfl rfl rfl rfl hca1 (Nat.le_of_ble_eq_true rfl) rfl ?_
          refine R_mono (c2 hca) (fun v116 M116 hr116 => ?_)
          obtain ⟨rfl, hm116⟩ := hr116
          rw [hm116]
          dsimp only [Option.toList, List.cons_append, List.nil_append]
          refine R_aload_n (q := 120) rfl rfl rfl ?_
          refine R_iload_n (q := 121) rfl rfl rfl ?_
          refine R_callv1 (q := 124) rfl rfl rfl rfl hca1 (Nat.le_of_ble_eq_true rfl) rfl ?_
          refine R_mono (c2 hca) (fun v121 M121 hr121 => ?_)
          obtain ⟨rfl, hm121⟩ := hr121
          rw [hm121]
          dsimp only [Option.toList, List.cons_append, List.nil_append]
          refine R_iand (q := 125) rfl rfl ?_
          refine R_callv3 (q := 128) rfl rfl rfl rfl h42 (Nat.le_of_ble_eq_true rfl) rfl ?_
          refine R_mono (c44 h (by omega) (by omega)) (fun v125 M125 hr125 => ?_)
          obtain ⟨rfl, hm125⟩ := hr125
          rw [hm125]
          dsimp only [Option.toList, List.cons_append, List.nil_append]
          refine R_iinc (q := 131) rfl rfl rfl (nI_i1 x) rfl ?_
          dsimp only [List.set]
          refine R_goto (t := 87) rfl rfl ?_
          first
            | (rw [if_pos (zb_ne0.mp h105)]
               exact ihj (x + 1) _ (by omega) (by omega))
            | (rw [if_neg (by rw [zb_eq0.mp h105]; decide)]
               exact ihj (x + 1) (lc, uc, cp, oc) (by omega) (by omega))
    refine R_iload_n (q := 79) rfl rfl rfl ?_
    refine R_bipush (q := 81) (v := nI 16) rfl rfl (by decide) ?_
    refine R_icmp_ge (q := 84) (t := 140) rfl rfl rfl (fun h81 => absurd h81 (nI_ge (by omega) (by omega))) (fun h81 => ?_)
    refine R_iconst (q := 85) (v := nI 1) rfl rfl (by decide) ?_
    refine R_istore (q := 87) rfl rfl (Nat.le_of_ble_eq_true rfl) rfl ?_
    dsimp only [List.set]
    exact hin 15 1 q rfl (by omega)
set_option maxRecDepth 8000 in
theorem c40_b {A B C : Nat → Nat} (h : CUF M) (ha : CA M a f) (haa : a + 1 < 43 ∨ 46 < a) (hc : CHF M co ln st en to pa (nI n) (nI lv) ch tr) (hn : n ≤ 14) (hlv : lv < 1000) (hABC : ∀ i, i < n → (ln i = nI (A i) ∧ A i < 17) ∧ (st i = nI (B i) ∧ B i ≤ C i) ∧ en i = nI (C i) ∧ C i < 17) : ∀ (k i : Nat) (q : QS) (t4 : Option Value), i + k = n → mm_R S (d + 3) 40 48 [some (.ref 42), some (.ref a), some (.ref 35), some (.int (nI i)), t4] [] (ctm M q) (fun v M' => v = none ∧ M' = ctm M (qcy (fun y => rm f y &&& rowv f (nI y)) 15 1 (qcs lv ch A B C k i q))) := by
  intro k
  induction k with
  | zero =>
    intro i q t4 hi
    have hc2 := ct_CHF (q := q) hc
    have h35 := hc2.1
    refine R_iload_n (q := 49) rfl rfl rfl ?_
    refine R_aload_n (q := 50) rfl rfl rfl ?_
    refine R_callv0 (q := 53) rfl rfl rfl rfl h35 (Nat.le_of_ble_eq_true rfl) rfl ?_
    refine R_mono (c20p hc2) (fun v50 M50 hr50 => ?_)
    obtain ⟨rfl, hm50⟩ := hr50
    rw [hm50]
    dsimp only [Option.toList, List.cons_append, List.nil_append]
    refine R_icmp_ge (q := 56) (t := 76) rfl rfl rfl (fun h53 => ?_) (fun h53 => absurd (nI_le (by omega) (by omega)) h53)
    refine R_iconst (q := 77) (v := nI 1) rfl rfl (by decide) ?_
    refine R_istore_n (q := 78) rfl rfl (Nat.le_of_ble_eq_true rfl) rfl ?_
    dsimp only [List.set]
    exact c40_c h ha haa 15 1 q _ rfl (by omega)
  | succ k ih =>
    intro i q t4 hi
    obtain ⟨lc, uc, cp, oc⟩ := q
    have hc2 := ct_CHF (q := (lc, uc, cp, oc)) hc
    have h35 := hc2.1
    have h42 := ct_42 (q := (lc, uc, cp, oc)) h
    obtain ⟨hA, hB, hC⟩ := hABC i (by omega)
    have hst : qcs lv ch A B C (k + 1) i (lc, uc, cp, oc) = qcs lv ch A B C k (i + 1) (if bt ch i = true then qch (lc, uc, cp, oc) (decide (i < lv)) (A i) (B i) (C i) else (lc, uc, cp, oc)) := rfl
    rw [hst]
    refine R_iload_n (q := 49) rfl rfl rfl ?_
    refine R_aload_n (q := 50) rfl rfl rfl ?_
    refine R_callv0 (q := 53) rfl rfl rfl rfl h35 (Nat.le_of_ble_eq_true rfl) rfl ?_
    refine R_mono (c20p hc2) (fun v50 M50 hr50 => ?_)
    obtain ⟨rfl, hm50⟩ := hr50
    rw [hm50]
    dsimp only [Option.toList, List.cons_append, List.nil_append]
    refine R_icmp_ge (q := 56) (t := 76) rfl rfl rfl (fun h53 => absurd h53 (nI_ge (by omega) (by omega))) (fun h53 => ?_)
    refine R_aload_n (q := 57) rfl rfl rfl ?_
    refine R_iload_n (q := 58) rfl rfl rfl ?_
    refine R_callv1 (q := 61) rfl rfl rfl rfl h35 (Nat.le_of_ble_eq_true rfl) rfl ?_
    refine R_mono (c24p hc2 (by omega)) (fun v58 M58 hr58 => ?_)
    obtain ⟨rfl, hm58⟩ := hr58
    rw [hm58]
    dsimp only [Option.toList, List.cons_append, List.nil_append]
    refine R_if_eq (q := 64) (t := 70) rfl rfl rfl (fun h61 => ?_) (fun h61 => ?_)
    · refine R_iinc (q := 73) rfl rfl rfl (nI_i1 i) rfl ?_
      dsimp only [List.set]
      refine R_goto (t := 48) rfl rfl ?_
      first
        | (rw [if_pos (zb_ne0.mp h61)]
           exact ih (i + 1) _ _ (by omega))
        | (rw [if_neg (by rw [zb_eq0.mp h61]; decide)]
           exact ih (i + 1) (lc, uc, cp, oc) _ (by omega))
    · refine R_aload_n (q := 65) rfl rfl rfl ?_
      refine R_aload_n (q := 66) rfl rfl rfl ?_
      refine R_iload_n (q := 67) rfl rfl rfl ?_
      refine R_callv2 (q := 70) rfl rfl rfl rfl h42 (Nat.le_of_ble_eq_true rfl) rfl ?_
      refine R_mono (c41 h hc (by omega) hlv hA hB hC) (fun v67 M67 hr67 => ?_)
      obtain ⟨rfl, hm67⟩ := hr67
      rw [hm67]
      dsimp only [Option.toList, List.cons_append, List.nil_append]
      refine R_iinc (q := 73) rfl rfl rfl (nI_i1 i) rfl ?_
      dsimp only [List.set]
      refine R_goto (t := 48) rfl rfl ?_
      first
        | (rw [if_pos (zb_ne0.mp h61)]
           exact ih (i + 1) _ _ (by omega))
        | (rw [if_neg (by rw [zb_eq0.mp h61]; decide)]
           exact ih (i + 1) (lc, uc, cp, oc) _ (by omega))
set_option maxRecDepth 8000 in
theorem c40 {A B C : Nat → Nat} (h : CUF M) (ha : CA M a f) (haa : a + 1 < 43 ∨ 46 < a) (hc : CHF M co ln st en to pa (nI n) (nI lv) ch tr) (hn : n ≤ 14) (hlv : lv < 1000) (hABC : ∀ i, i < n → (ln i = nI (A i) ∧ A i < 17) ∧ (st i = nI (B i) ∧ B i ≤ C i) ∧ en i = nI (C i) ∧ C i < 17) : mm_R S (d + 3) 40 0 (mm_en 40 [.ref 42, .ref a, .ref 35]) [] (ctm M (lc, uc, cp, oc)) (fun v M' => v = none ∧ M' = ctm M (qcy (fun y => rm f y &&& rowv f (nI y)) 15 1 (qcs lv ch A B C n 0 (ifl (fun _ => nI 0) lc 17, ifl (fun _ => nI 0) uc 17, ifl (fun _ => nI 0) cp 17, ifl co oc 17)))) := by
  show mm_R S (d + 3) 40 0 [some (.ref 42), some (.ref a), some (.ref 35), none, none] [] (ctm M (lc, uc, cp, oc)) _
  refine R_iconst (q := 1) (v := nI 0) rfl rfl (by decide) ?_
  refine R_istore_n (q := 2) rfl rfl (Nat.le_of_ble_eq_true rfl) rfl ?_
  dsimp only [List.set]
  refine R_atM (M' := ctm M (ifl (fun _ => nI 0) lc 0, ifl (fun _ => nI 0) uc 0, ifl (fun _ => nI 0) cp 0, ifl co oc 0)) (by simp only [ifl_0]) ?_
  refine lpN (fun j => mm_R S (d + 3) 40 2 [some (.ref 42), some (.ref a), some (.ref 35), some (.int (nI j)), none] [] (ctm M (ifl (fun _ => nI 0) lc j, ifl (fun _ => nI 0) uc j, ifl (fun _ => nI 0) cp j, ifl co oc j)) (fun v M' => v = none ∧ M' = ctm M (qcy (fun y => rm f y &&& rowv f (nI y)) 15 1 (qcs lv ch A B C n 0 (ifl (fun _ => nI 0) lc 17, ifl (fun _ => nI 0) uc 17, ifl (fun _ => nI 0) cp 17, ifl co oc 17))))) 17 (fun j hj ih => ?_) ?_ 0 (Nat.zero_le _)
  · have hc3 := ct_CHF (q := (ifl (fun _ => nI 0) lc (j + 1), ifl (fun _ => nI 0) uc (j + 1), ifl (fun _ => nI 0) cp (j + 1), ifl co oc j)) hc
    have h35 := hc3.1
    refine R_iload_n (q := 3) rfl rfl rfl ?_
    refine R_bipush (q := 5) (v := nI 16) rfl rfl (by decide) ?_
    refine R_icmp_gt (q := 8) (t := 46) rfl rfl rfl (fun h5 => absurd h5 (nI_nlt (by omega) (by omega))) (fun h5 => ?_)
    refine R_aload_n (q := 9) rfl rfl rfl ?_
    refine R_getf (q := 12) rfl rfl rfl (ct_42 h) rfl ?_
    refine R_iload_n (q := 13) rfl rfl rfl ?_
    refine R_iconst (q := 14) (v := nI 0) rfl rfl (by decide) ?_
    refine R_iastore (q := 15) rfl rfl ct_43 (by first | assumption | exact in_nI (by omega) (by decide)) ?_
    rw [cl_nI (by omega), ct_p43, (show upd (ifl (fun _ => nI 0) lc j) j (nI 0) = ifl (fun _ => nI 0) lc (j + 1) from ifl_s (n := fun _ => nI 0))]
    refine R_aload_n (q := 16) rfl rfl rfl ?_
    refine R_getf (q := 19) rfl rfl rfl (ct_42 h) rfl ?_
    refine R_iload_n (q := 20) rfl rfl rfl ?_
    refine R_iconst (q := 21) (v := nI 0) rfl rfl (by decide) ?_
    refine R_iastore (q := 22) rfl rfl ct_44 (by first | assumption | exact in_nI (by omega) (by decide)) ?_
    rw [cl_nI (by omega), ct_p44, (show upd (ifl (fun _ => nI 0) uc j) j (nI 0) = ifl (fun _ => nI 0) uc (j + 1) from ifl_s (n := fun _ => nI 0))]
    refine R_aload_n (q := 23) rfl rfl rfl ?_
    refine R_getf (q := 26) rfl rfl rfl (ct_42 h) rfl ?_
    refine R_iload_n (q := 27) rfl rfl rfl ?_
    refine R_iconst (q := 28) (v := nI 0) rfl rfl (by decide) ?_
    refine R_iastore (q := 29) rfl rfl ct_45 (by first | assumption | exact in_nI (by omega) (by decide)) ?_
    rw [cl_nI (by omega), ct_p45, (show upd (ifl (fun _ => nI 0) cp j) j (nI 0) = ifl (fun _ => nI 0) cp (j + 1) from ifl_s (n := fun _ => nI 0))]
    refine R_aload_n (q := 30) rfl rfl rfl ?_
    refine R_getf (q := 33) rfl rfl rfl (ct_42 h) rfl ?_
    refine R_iload_n (q := 34) rfl rfl rfl ?_
    refine R_aload_n (q := 35) rfl rfl rfl ?_
    refine R_iload_n (q := 36) rfl rfl rfl ?_
    refine R_callv1 (q := 39) rfl rfl rfl rfl h35 (Nat.le_of_ble_eq_true rfl) rfl ?_
    refine R_mono (c23p hc3) (fun v36 M36 hr36 => ?_)
    obtain ⟨rfl, hm36⟩ := hr36
    rw [hm36]
    dsimp only [Option.toList, List.cons_append, List.nil_append]
    rw [row17_nI (by omega)]
    refine R_iastore (q := 40) rfl rfl ct_46 (by first | assumption | exact in_nI (by omega) (by decide)) ?_
    rw [cl_nI (by omega), ct_p46]
    refine R_iinc (q := 43) rfl rfl rfl (nI_i1 j) rfl ?_
    dsimp only [List.set]
    refine R_goto (t := 2) rfl rfl ?_
    rw [show upd (ifl co oc j) j (co j) = ifl co oc (j + 1) from ifl_s (n := co)]
    exact ih
  · refine R_iload_n (q := 3) rfl rfl rfl ?_
    refine R_bipush (q := 5) (v := nI 16) rfl rfl (by decide) ?_
    refine R_icmp_gt (q := 8) (t := 46) rfl rfl rfl (fun h5 => ?_) (fun h5 => absurd (nI_lt (by decide) (by decide)) h5)
    refine R_iconst (q := 47) (v := nI 0) rfl rfl (by decide) ?_
    refine R_istore_n (q := 48) rfl rfl (Nat.le_of_ble_eq_true rfl) rfl ?_
    dsimp only [List.set]
    exact c40_b h ha haa hc hn hlv hABC n 0 _ _ (by omega)
theorem goR_ge {g c : Nat → Bool} : ∀ k e, e ≤ goR g c k e := by
  intro k
  induction k with
  | zero => intro e; exact Nat.le_refl _
  | succ k ih =>
    intro e
    unfold goR
    split
    · have := ih (e + 1); omega
    · omega
theorem holds_eq {l : Nat → Int32} {x y : Nat} (hx : x < 16) (hy : y < 16) : (decide (0 ≤ (nI x).toInt ∧ (nI x).toInt < 16) && bt (rowv l (nI y)) (nI x).toNatClampNeg) = bt (l y) x := by
  rw [decide_eq_true (by rw [i_n x (by omega)]; omega), rowv_nI hy, cl_nI (by omega), Bool.true_and]
set_option maxRecDepth 8000 in
theorem c46 {x y : Nat} {l u : Nat → Int32} (h : CUF M) (hu : M.1 44 = some (ia 17 u)) (hl : CA M 47 l) (hx : x < 16) (hy : y < 16) : mm_R S (d + 2) 46 0 (mm_en 46 [.ref 42, .int (nI x), .int (nI y)]) [] M (fun v M' => v = some (.int (nI (goR (bt (l y)) (bt (u y)) (15 - x) (x + 1) - x))) ∧ M' = M) := by
  have hl1 := hl.1
  have h42 : M.1 42 = _ := h
  have hW : ∀ (k w : Nat), x + w + k = 16 → mm_R S (d + 2) 46 2 [some (.ref 42), some (.int (nI x)), some (.int (nI y)), some (.int (nI w))] [] M (fun v M' => v = some (.int (nI (goR (bt (l y)) (bt (u y)) k (x + w) - x))) ∧ M' = M) := by
    intro k
    induction k with
    | zero =>
      intro w hw
      refine R_iload_n (q := 3) rfl rfl rfl ?_
      refine R_iload_n (q := 4) rfl rfl rfl ?_
      refine R_iadd (q := 5) rfl rfl ?_
      rw [nI_add]
      refine R_bipush (q := 7) (v := nI 16) rfl rfl (by decide) ?_
      refine R_icmp_ge (q := 10) (t := 45) rfl rfl rfl (fun h7 => ?_) (fun h7 => absurd (nI_le (by omega) (by omega)) h7)
      refine R_iload_n (q := 46) rfl rfl rfl ?_
      refine R_ireturn rfl rfl ?_
      refine ⟨congrArg some (congrArg Value.int (congrArg nI ?_)), rfl⟩
      show w = x + w - x
      omega
    | succ k ih =>
      intro w hw
      have hst : goR (bt (l y)) (bt (u y)) (k + 1) (x + w) = (if (bt (l y)) (x + w) = true ∧ (bt (u y)) (x + w) = false then goR (bt (l y)) (bt (u y)) k (x + w + 1) else x + w) := rfl
      rw [hst]
      refine R_iload_n (q := 3) rfl rfl rfl ?_
      refine R_iload_n (q := 4) rfl rfl rfl ?_
      refine R_iadd (q := 5) rfl rfl ?_
      rw [nI_add]
      refine R_bipush (q := 7) (v := nI 16) rfl rfl (by decide) ?_
      refine R_icmp_ge (q := 10) (t := 45) rfl rfl rfl (fun h7 => absurd h7 (nI_ge (by omega) (by omega))) (fun h7 => ?_)
      refine R_aload_n (q := 11) rfl rfl rfl ?_
      refine R_getf (q := 14) rfl rfl rfl h42 rfl ?_
      refine R_iload_n (q := 15) rfl rfl rfl ?_
      refine R_iload_n (q := 16) rfl rfl rfl ?_
      refine R_iadd (q := 17) rfl rfl ?_
      rw [nI_add]
      refine R_iload_n (q := 18) rfl rfl rfl ?_
      refine R_callv2 (q := 21) rfl rfl rfl rfl hl1 (Nat.le_of_ble_eq_true rfl) rfl ?_
      refine R_mono (R_deep (c4 (d := 0) hl) (by omega)) (fun v18 M18 hr18 => ?_)
      obtain ⟨rfl, hm18⟩ := hr18
      rw [hm18]
      dsimp only [Option.toList, List.cons_append, List.nil_append]
      rw [holds_eq (by omega) (by omega)]
      refine R_if_eq (q := 24) (t := 45) rfl rfl rfl (fun h21 => ?_) (fun h21 => ?_)
      · refine R_iload_n (q := 46) rfl rfl rfl ?_
        refine R_ireturn rfl rfl ?_
        rw [if_neg (by
          rintro ⟨q1, q2⟩
          first
            | (rw [zb_eq0.mp h21] at q1; cases q1; done)
            | (rw [zb_ne0.mp h36] at q2; cases q2; done))]
        refine ⟨congrArg some (congrArg Value.int (congrArg nI ?_)), rfl⟩
        omega
      · refine R_aload_n (q := 25) rfl rfl rfl ?_
        refine R_getf (q := 28) rfl rfl rfl h42 rfl ?_
        refine R_iload_n (q := 29) rfl rfl rfl ?_
        refine R_iaload (q := 30) rfl rfl hu (by omega) (by first | assumption | exact in_nI (by omega) (by decide)) ?_
        rw [cl_nI (by omega)]
        refine R_iload_n (q := 31) rfl rfl rfl ?_
        refine R_iload_n (q := 32) rfl rfl rfl ?_
        refine R_iadd (q := 33) rfl rfl ?_
        rw [nI_add]
        refine R_calls2 (q := 36) rfl rfl rfl rfl (Nat.le_of_ble_eq_true rfl) rfl ?_
        refine R_mono (c142 (by omega)) (fun v33 M33 hr33 => ?_)
        obtain ⟨rfl, hm33⟩ := hr33
        rw [hm33]
        dsimp only [Option.toList, List.cons_append, List.nil_append]
        refine R_if_ne (q := 39) (t := 45) rfl rfl rfl (fun h36 => ?_) (fun h36 => ?_)
        · refine R_iload_n (q := 46) rfl rfl rfl ?_
          refine R_ireturn rfl rfl ?_
          rw [if_neg (by
            rintro ⟨q1, q2⟩
            first
              | (rw [zb_eq0.mp h21] at q1; cases q1; done)
              | (rw [zb_ne0.mp h36] at q2; cases q2; done))]
          refine ⟨congrArg some (congrArg Value.int (congrArg nI ?_)), rfl⟩
          omega
        · refine R_iinc (q := 42) rfl rfl rfl (nI_i1 w) rfl ?_
          dsimp only [List.set]
          refine R_goto (t := 2) rfl rfl ?_
          rw [if_pos ⟨zb_ne0.mp h21, zb_eq0.mp h36⟩]
          exact ih (w + 1) (by omega)
  show mm_R S (d + 2) 46 0 [some (.ref 42), some (.int (nI x)), some (.int (nI y)), none] [] M _
  refine R_iconst (q := 1) (v := nI 1) rfl rfl (by decide) ?_
  refine R_istore_n (q := 2) rfl rfl (Nat.le_of_ble_eq_true rfl) rfl ?_
  dsimp only [List.set]
  exact hW (15 - x) 1 (by omega)
set_option maxRecDepth 8000 in
theorem c47 {x y : Nat} {l u : Nat → Int32} (h : CUF M) (hu : M.1 43 = some (ia 17 u)) (hl : CA M 47 l) (hx : x < 16) (hy : y < 16) : mm_R S (d + 2) 47 0 (mm_en 47 [.ref 42, .int (nI x), .int (nI y)]) [] M (fun v M' => v = some (.int (nI (goR (fun e => bt (l e) x) (fun e => bt (u e) x) (15 - y) (y + 1) - y))) ∧ M' = M) := by
  have hl1 := hl.1
  have h42 : M.1 42 = _ := h
  have hW : ∀ (k w : Nat), y + w + k = 16 → mm_R S (d + 2) 47 2 [some (.ref 42), some (.int (nI x)), some (.int (nI y)), some (.int (nI w))] [] M (fun v M' => v = some (.int (nI (goR (fun e => bt (l e) x) (fun e => bt (u e) x) k (y + w) - y))) ∧ M' = M) := by
    intro k
    induction k with
    | zero =>
      intro w hw
      refine R_iload_n (q := 3) rfl rfl rfl ?_
      refine R_iload_n (q := 4) rfl rfl rfl ?_
      refine R_iadd (q := 5) rfl rfl ?_
      rw [nI_add]
      refine R_bipush (q := 7) (v := nI 16) rfl rfl (by decide) ?_
      refine R_icmp_ge (q := 10) (t := 45) rfl rfl rfl (fun h7 => ?_) (fun h7 => absurd (nI_le (by omega) (by omega)) h7)
      refine R_iload_n (q := 46) rfl rfl rfl ?_
      refine R_ireturn rfl rfl ?_
      refine ⟨congrArg some (congrArg Value.int (congrArg nI ?_)), rfl⟩
      show w = y + w - y
      omega
    | succ k ih =>
      intro w hw
      have hst : goR (fun e => bt (l e) x) (fun e => bt (u e) x) (k + 1) (y + w) = (if (fun e => bt (l e) x) (y + w) = true ∧ (fun e => bt (u e) x) (y + w) = false then goR (fun e => bt (l e) x) (fun e => bt (u e) x) k (y + w + 1) else y + w) := rfl
      rw [hst]
      refine R_iload_n (q := 3) rfl rfl rfl ?_
      refine R_iload_n (q := 4) rfl rfl rfl ?_
      refine R_iadd (q := 5) rfl rfl ?_
      rw [nI_add]
      refine R_bipush (q := 7) (v := nI 16) rfl rfl (by decide) ?_
      refine R_icmp_ge (q := 10) (t := 45) rfl rfl rfl (fun h7 => absurd h7 (nI_ge (by omega) (by omega))) (fun h7 => ?_)
      refine R_aload_n (q := 11) rfl rfl rfl ?_
      refine R_getf (q := 14) rfl rfl rfl h42 rfl ?_
      refine R_iload_n (q := 15) rfl rfl rfl ?_
      refine R_iload_n (q := 16) rfl rfl rfl ?_
      refine R_iload_n (q := 17) rfl rfl rfl ?_
      refine R_iadd (q := 18) rfl rfl ?_
      rw [nI_add]
      refine R_callv2 (q := 21) rfl rfl rfl rfl hl1 (Nat.le_of_ble_eq_true rfl) rfl ?_
      refine R_mono (R_deep (c4 (d := 0) hl) (by omega)) (fun v18 M18 hr18 => ?_)
      obtain ⟨rfl, hm18⟩ := hr18
      rw [hm18]
      dsimp only [Option.toList, List.cons_append, List.nil_append]
      rw [holds_eq (by omega) (by omega)]
      refine R_if_eq (q := 24) (t := 45) rfl rfl rfl (fun h21 => ?_) (fun h21 => ?_)
      · refine R_iload_n (q := 46) rfl rfl rfl ?_
        refine R_ireturn rfl rfl ?_
        rw [if_neg (by
          rintro ⟨q1, q2⟩
          first
            | (rw [zb_eq0.mp h21] at q1; cases q1; done)
            | (rw [zb_ne0.mp h36] at q2; cases q2; done))]
        refine ⟨congrArg some (congrArg Value.int (congrArg nI ?_)), rfl⟩
        omega
      · refine R_aload_n (q := 25) rfl rfl rfl ?_
        refine R_getf (q := 28) rfl rfl rfl h42 rfl ?_
        refine R_iload_n (q := 29) rfl rfl rfl ?_
        refine R_iload_n (q := 30) rfl rfl rfl ?_
        refine R_iadd (q := 31) rfl rfl ?_
        rw [nI_add]
        refine R_iaload (q := 32) rfl rfl hu (by omega) (by first | assumption | exact in_nI (by omega) (by decide)) ?_
        rw [cl_nI (by omega)]
        refine R_iload_n (q := 33) rfl rfl rfl ?_
        refine R_calls2 (q := 36) rfl rfl rfl rfl (Nat.le_of_ble_eq_true rfl) rfl ?_
        refine R_mono (c142 (by omega)) (fun v33 M33 hr33 => ?_)
        obtain ⟨rfl, hm33⟩ := hr33
        rw [hm33]
        dsimp only [Option.toList, List.cons_append, List.nil_append]
        refine R_if_ne (q := 39) (t := 45) rfl rfl rfl (fun h36 => ?_) (fun h36 => ?_)
        · refine R_iload_n (q := 46) rfl rfl rfl ?_
          refine R_ireturn rfl rfl ?_
          rw [if_neg (by
            rintro ⟨q1, q2⟩
            first
              | (rw [zb_eq0.mp h21] at q1; cases q1; done)
              | (rw [zb_ne0.mp h36] at q2; cases q2; done))]
          refine ⟨congrArg some (congrArg Value.int (congrArg nI ?_)), rfl⟩
          omega
        · refine R_iinc (q := 42) rfl rfl rfl (nI_i1 w) rfl ?_
          dsimp only [List.set]
          refine R_goto (t := 2) rfl rfl ?_
          rw [if_pos ⟨zb_ne0.mp h21, zb_eq0.mp h36⟩]
          exact ih (w + 1) (by omega)
  show mm_R S (d + 2) 47 0 [some (.ref 42), some (.int (nI x)), some (.int (nI y)), none] [] M _
  refine R_iconst (q := 1) (v := nI 1) rfl rfl (by decide) ?_
  refine R_istore_n (q := 2) rfl rfl (Nat.le_of_ble_eq_true rfl) rfl ?_
  dsimp only [List.set]
  exact hW (15 - y) 1 (by omega)
end P31
