def gaL (to : Nat → Int32) (among : Int32) (n lv : Nat) : Nat → Nat → PS × Nat → PS × Nat
  | 0, _, s => s
  | k + 1, i, s => gaL to among n lv k (i + 1) (if bt among i = true then ((fp to among n lv 15 i (s.1.1, nI 0)).2, if (fp to among n lv 15 i (s.1.1, nI 0)).1 = true then s.2 + 1 else s.2) else ((s.1.1, nI 0), s.2))
def ga (to : Nat → Int32) (among : Int32) (n lv : Nat) (s : PS) : PS × Nat := gaL to among n lv lv 0 ((ifl (fun _ => (-1)) s.1 n, s.2), 0)
section P29
variable {S : mm_S} {d : Nat} {M : mm_M} {co ln st en to pa : Nat → Int32} {ch tr : Int32} {n lv : Nat}
theorem okp_ifl {p : Nat → Int32} {n : Nat} (h : okp p) : okp (ifl (fun _ => (-1)) p n) := by
  intro j hj
  unfold ifl
  split
  · exact Or.inl rfl
  · exact h j hj
theorem gaL_ok {among : Int32} (hn : n ≤ 14) (hlv : lv ≤ n) : ∀ k i s, i + k ≤ 14 → okp s.1.1 → okp (gaL to among n lv k i s).1.1 := by
  intro k
  induction k with
  | zero => intro i s _ h; exact h
  | succ k ih =>
    intro i s hi h
    refine ih (i + 1) _ (by omega) ?_
    split
    · exact fp_ok hn hlv 15 i (s.1.1, nI 0) (by omega) h
    · exact h
theorem ga_ok {among : Int32} {s : PS} (hn : n ≤ 14) (hlv : lv ≤ n) (h : okp s.1) : okp (ga to among n lv s).1.1 := gaL_ok hn hlv lv 0 _ (by omega) (okp_ifl h)
set_option maxRecDepth 8000 in
theorem c37_loop {among : Int32} (hn : n ≤ 14) (hlv : lv ≤ n) : ∀ (k i : Nat) (s : PS × Nat), i + k = lv → okp s.1.1 → mm_R S (d + 17) 37 27 [some (.ref 35), some (.int among), some (.int (nI s.2)), some (.int (nI i))] [] (chp M co ln st en to (nI n) (nI lv) ch s.1) (fun v M' => v = some (.int (bcn among - nI (gaL to among n lv k i s).2)) ∧ M' = chp M co ln st en to (nI n) (nI lv) ch (gaL to among n lv k i s).1) := by
  intro k
  induction k with
  | zero =>
    intro i s hi hs
    refine R_iload_n (q := 28) rfl rfl rfl ?_
    refine R_aload_n (q := 29) rfl rfl rfl ?_
    refine R_getf (q := 32) rfl rfl rfl rfl rfl ?_
    refine R_icmp_ge (q := 35) (t := 67) rfl rfl rfl (fun h32 => ?_) (fun h32 => absurd (nI_le (by omega) (by omega)) h32)
    refine R_iload_n (q := 68) rfl rfl rfl ?_
    refine R_calls1 (q := 71) rfl rfl rfl rfl (Nat.le_of_ble_eq_true rfl) rfl ?_
    refine R_mono (c201) (fun v68 M68 hr68 => ?_)
    obtain ⟨rfl, hm68⟩ := hr68
    rw [hm68]
    dsimp only [Option.toList, List.cons_append, List.nil_append]
    refine R_iload_n (q := 72) rfl rfl rfl ?_
    refine R_isub (q := 73) rfl rfl ?_
    refine R_ireturn rfl rfl ?_
    exact ⟨rfl, rfl⟩
  | succ k ih =>
    intro i s hi hs
    obtain ⟨⟨sp, sr⟩, sn⟩ := s
    have hs : okp sp := hs
    have hk := ih (i + 1) (if bt among i = true then ((fp to among n lv 15 i (sp, nI 0)).2, if (fp to among n lv 15 i (sp, nI 0)).1 = true then sn + 1 else sn) else ((sp, nI 0), sn)) (by omega) (by
      split
      · exact fp_ok hn hlv 15 i (sp, nI 0) (by omega) hs
      · exact hs)
    have hst : gaL to among n lv (k + 1) i ((sp, sr), sn) = gaL to among n lv k (i + 1) (if bt among i = true then ((fp to among n lv 15 i (sp, nI 0)).2, if (fp to among n lv 15 i (sp, nI 0)).1 = true then sn + 1 else sn) else ((sp, nI 0), sn)) := rfl
    rw [hst]
    have hcall := c38 (S := S) (d := d) (M := M) (co := co) (ln := ln) (st := st) (en := en) (to := to) (ch := ch) (among := among) hn hlv 15 i 0 (sp, nI 0) rfl (by omega) hs
    generalize fp to among n lv 15 i (sp, nI 0) = R at *
    obtain ⟨rb, rs⟩ := R
    dsimp only at hk hcall ⊢
    show mm_R S (d + 17) 37 27 [some (.ref 35), some (.int among), some (.int (nI sn)), some (.int (nI i))] [] (chm M co ln st en to sp (nI n) (nI lv) ch sr) _
    refine R_iload_n (q := 28) rfl rfl rfl ?_
    refine R_aload_n (q := 29) rfl rfl rfl ?_
    refine R_getf (q := 32) rfl rfl rfl ch_35 rfl ?_
    refine R_icmp_ge (q := 35) (t := 67) rfl rfl rfl (fun h32 => absurd h32 (nI_ge (by omega) (by omega))) (fun h32 => ?_)
    refine R_aload_n (q := 36) rfl rfl rfl ?_
    refine R_iconst (q := 37) (v := nI 0) rfl rfl (by decide) ?_
    refine R_putf (q := 40) rfl rfl rfl ch_35 (Nat.le_of_ble_eq_true rfl) rfl (fun hf => absurd hf (by decide)) rfl ?_
    dsimp only [List.set]
    rw [ch_p35]
    refine R_iload_n (q := 41) rfl rfl rfl ?_
    refine R_iload_n (q := 42) rfl rfl rfl ?_
    refine R_calls2 (q := 45) rfl rfl rfl rfl (Nat.le_of_ble_eq_true rfl) rfl ?_
    refine R_mono (c142 (by omega)) (fun v42 M42 hr42 => ?_)
    obtain ⟨rfl, hm42⟩ := hr42
    rw [hm42]
    dsimp only [Option.toList, List.cons_append, List.nil_append]
    refine R_if_eq (q := 48) (t := 61) rfl rfl rfl (fun h45 => ?_) (fun h45 => ?_)
    · refine R_iinc (q := 64) rfl rfl rfl (nI_i1 i) rfl ?_
      dsimp only [List.set]
      refine R_goto (t := 27) rfl rfl ?_
      first
        | (rw [if_pos (zb_ne0.mp h45), if_pos (zb_ne0.mp h55)] at hk ⊢
           exact hk)
        | (rw [if_pos (zb_ne0.mp h45), if_neg (by rw [zb_eq0.mp h55]; decide)] at hk ⊢
           exact hk)
        | (rw [if_neg (by rw [zb_eq0.mp h45]; decide)] at hk ⊢
           exact hk)
    · refine R_aload_n (q := 49) rfl rfl rfl ?_
      refine R_iload_n (q := 50) rfl rfl rfl ?_
      refine R_iload_n (q := 51) rfl rfl rfl ?_
      refine R_iconst (q := 52) (v := nI 0) rfl rfl (by decide) ?_
      refine R_callv3 (q := 55) rfl rfl rfl rfl rfl (Nat.le_of_ble_eq_true rfl) rfl ?_
      refine R_mono ((show mm_R S (d + 16) 38 0 _ [] _ _ from hcall)) (fun v52 M52 hr52 => ?_)
      obtain ⟨rfl, hm52⟩ := hr52
      rw [hm52]
      dsimp only [Option.toList, List.cons_append, List.nil_append]
      refine R_if_eq (q := 58) (t := 61) rfl rfl rfl (fun h55 => ?_) (fun h55 => ?_)
      · refine R_iinc (q := 64) rfl rfl rfl (nI_i1 i) rfl ?_
        dsimp only [List.set]
        refine R_goto (t := 27) rfl rfl ?_
        first
          | (rw [if_pos (zb_ne0.mp h45), if_pos (zb_ne0.mp h55)] at hk ⊢
             exact hk)
          | (rw [if_pos (zb_ne0.mp h45), if_neg (by rw [zb_eq0.mp h55]; decide)] at hk ⊢
             exact hk)
          | (rw [if_neg (by rw [zb_eq0.mp h45]; decide)] at hk ⊢
             exact hk)
      · refine R_iinc (q := 61) rfl rfl rfl (nI_i1 sn) rfl ?_
        dsimp only [List.set]
        refine R_iinc (q := 64) rfl rfl rfl (nI_i1 i) rfl ?_
        dsimp only [List.set]
        refine R_goto (t := 27) rfl rfl ?_
        first
          | (rw [if_pos (zb_ne0.mp h45), if_pos (zb_ne0.mp h55)] at hk ⊢
             exact hk)
          | (rw [if_pos (zb_ne0.mp h45), if_neg (by rw [zb_eq0.mp h55]; decide)] at hk ⊢
             exact hk)
          | (rw [if_neg (by rw [zb_eq0.mp h45]; decide)] at hk ⊢
             exact hk)
set_option maxRecDepth 8000 in
theorem c37 {among : Int32} {s : PS} (hn : n ≤ 14) (hlv : lv ≤ n) (hs : okp s.1) : mm_R S (d + 17) 37 0 (mm_en 37 [.ref 35, .int among]) [] (chp M co ln st en to (nI n) (nI lv) ch s) (fun v M' => v = some (.int (bcn among - nI (ga to among n lv s).2)) ∧ M' = chp M co ln st en to (nI n) (nI lv) ch (ga to among n lv s).1) := by
  obtain ⟨sp, sr⟩ := s
  show mm_R S (d + 17) 37 0 [some (.ref 35), some (.int among), none, none] [] (chm M co ln st en to sp (nI n) (nI lv) ch sr) _
  refine R_iconst (q := 1) (v := nI 0) rfl rfl (by decide) ?_
  refine R_istore_n (q := 2) rfl rfl (Nat.le_of_ble_eq_true rfl) rfl ?_
  dsimp only [List.set]
  refine R_atM (M' := (chm M co ln st en to (ifl (fun _ => (-1)) sp 0) (nI n) (nI lv) ch sr)) (by rw [ifl_0]) ?_
  refine lpN (fun j => mm_R S (d + 17) 37 2 [some (.ref 35), some (.int among), some (.int (nI j)), none] [] (chm M co ln st en to (ifl (fun _ => (-1)) sp j) (nI n) (nI lv) ch sr) (fun v M' => v = some (.int (bcn among - nI (ga to among n lv (sp, sr)).2)) ∧ M' = chp M co ln st en to (nI n) (nI lv) ch (ga to among n lv (sp, sr)).1)) n (fun j hj ih => ?_) ?_ 0 (Nat.zero_le _)
  · skip
    refine R_iload_n (q := 3) rfl rfl rfl ?_
    refine R_aload_n (q := 4) rfl rfl rfl ?_
    refine R_getf (q := 7) rfl rfl rfl ch_35 rfl ?_
    refine R_icmp_ge (q := 10) (t := 23) rfl rfl rfl (fun h7 => absurd h7 (nI_ge hj (by omega))) (fun h7 => ?_)
    refine R_aload_n (q := 11) rfl rfl rfl ?_
    refine R_getf (q := 14) rfl rfl rfl ch_35 rfl ?_
    refine R_iload_n (q := 15) rfl rfl rfl ?_
    refine R_iconst (q := 16) (v := (-1)) rfl rfl (by decide) ?_
    refine R_iastore (q := 17) rfl rfl ch_41 (by first | assumption | exact in_nI (by omega) (by decide)) ?_
    refine R_iinc (q := 20) rfl rfl rfl (nI_i1 j) rfl ?_
    dsimp only [List.set]
    refine R_goto (t := 2) rfl rfl ?_
    refine R_atM ?_ ih
    rw [ch_p41, cl_nI (by omega)]
    exact (congrArg (fun z => chm M co ln st en to z (nI n) (nI lv) ch sr) (ifl_s (n := fun _ => (-1)))).symm
  · refine R_iload_n (q := 3) rfl rfl rfl ?_
    refine R_aload_n (q := 4) rfl rfl rfl ?_
    refine R_getf (q := 7) rfl rfl rfl ch_35 rfl ?_
    refine R_icmp_ge (q := 10) (t := 23) rfl rfl rfl (fun h7 => ?_) (fun h7 => absurd (nI_le (Nat.le_refl _) (by omega)) h7)
    refine R_iconst (q := 24) (v := nI 0) rfl rfl (by decide) ?_
    refine R_istore_n (q := 25) rfl rfl (Nat.le_of_ble_eq_true rfl) rfl ?_
    dsimp only [List.set]
    refine R_iconst (q := 26) (v := nI 0) rfl rfl (by decide) ?_
    refine R_istore_n (q := 27) rfl rfl (Nat.le_of_ble_eq_true rfl) rfl ?_
    dsimp only [List.set]
    exact c37_loop hn hlv lv 0 ((ifl (fun _ => (-1)) sp n, sr), 0) (by omega) (okp_ifl hs)
/-- what is left, what is needed, what is chosen, the matching's row -/
abbrev ZS : Type := Int32 × Int32 × Int32 × PS
def bi (i : Nat) : Int32 := nI 1 <<< (nI i &&& 31)
def chl (to : Nat → Int32) (n lv : Nat) : Nat → Nat → ZS → ZS
  | 0, _, s => s
  | k + 1, i, s => chl to n lv k (i + 1) (if bt s.1 i = true then
      (if bcn ((s.1 &&& (bi i ^^^ (-1))) &&& (to i ^^^ (-1))) - nI (ga to ((s.1 &&& (bi i ^^^ (-1))) &&& (to i ^^^ (-1))) n lv s.2.2.2).2 + nI 1 = s.2.1 then ((s.1 &&& (bi i ^^^ (-1))) &&& (to i ^^^ (-1)), s.2.1 + Int32.ofInt (-1), s.2.2.1 ||| bi i, (ga to ((s.1 &&& (bi i ^^^ (-1))) &&& (to i ^^^ (-1))) n lv s.2.2.2).1)
       else (s.1 &&& (bi i ^^^ (-1)), s.2.1, s.2.2.1, (ga to ((s.1 &&& (bi i ^^^ (-1))) &&& (to i ^^^ (-1))) n lv s.2.2.2).1))
    else (s.1 &&& (bi i ^^^ (-1)), s.2.1, s.2.2.1, s.2.2.2))
def chz (M : mm_M) (co ln st en to : Nat → Int32) (n lv : Int32) (s : ZS) : mm_M := chm M co ln st en to s.2.2.2.1 n lv s.2.2.1 s.2.2.2.2
set_option maxRecDepth 8000 in
theorem c34_loop (hn : n ≤ 14) (hlv : lv ≤ n) : ∀ (k i : Nat) (s : ZS) (t4 : Option Value), i + k = n → okp s.2.2.2.1 → mm_R S (d + 18) 34 34 [some (.ref 35), some (.int s.1), some (.int s.2.1), some (.int (nI i)), t4] [] (chz M co ln st en to (nI n) (nI lv) s) (fun v M' => v = none ∧ M' = (chz M co ln st en to (nI n) (nI lv) (chl to n lv k i s))) := by
  intro k
  induction k with
  | zero =>
    intro i s t4 hi hs
    refine R_iload_n (q := 35) rfl rfl rfl ?_
    refine R_aload_n (q := 36) rfl rfl rfl ?_
    refine R_getf (q := 39) rfl rfl rfl rfl rfl ?_
    refine R_icmp_ge (q := 42) (t := 115) rfl rfl rfl (fun h39 => ?_) (fun h39 => absurd (nI_le (by omega) (by omega)) h39)
    refine R_return rfl rfl ?_
    exact ⟨rfl, rfl⟩
  | succ k ih =>
    intro i s t4 hi hs
    obtain ⟨sl, sn, sc, sp, sr⟩ := s
    have hs : okp sp := hs
    have hk := ih (i + 1)
    have hst : chl to n lv (k + 1) i (sl, sn, sc, sp, sr) = chl to n lv k (i + 1) (if bt sl i = true then
      (if bcn ((sl &&& (bi i ^^^ (-1))) &&& (to i ^^^ (-1))) - nI (ga to ((sl &&& (bi i ^^^ (-1))) &&& (to i ^^^ (-1))) n lv (sp, sr)).2 + nI 1 = sn then ((sl &&& (bi i ^^^ (-1))) &&& (to i ^^^ (-1)), sn + Int32.ofInt (-1), sc ||| bi i, (ga to ((sl &&& (bi i ^^^ (-1))) &&& (to i ^^^ (-1))) n lv (sp, sr)).1)
       else (sl &&& (bi i ^^^ (-1)), sn, sc, (ga to ((sl &&& (bi i ^^^ (-1))) &&& (to i ^^^ (-1))) n lv (sp, sr)).1))
    else (sl &&& (bi i ^^^ (-1)), sn, sc, (sp, sr))) := rfl
    rw [hst]
    have hcall := c37 (S := S) (d := d) (M := M) (co := co) (ln := ln) (st := st) (en := en) (to := to) (ch := sc) (among := (sl &&& (bi i ^^^ (-1))) &&& (to i ^^^ (-1))) (s := (sp, sr)) hn hlv hs
    have hgo := ga_ok (to := to) (among := (sl &&& (bi i ^^^ (-1))) &&& (to i ^^^ (-1))) (s := (sp, sr)) hn hlv hs
    generalize ga to ((sl &&& (bi i ^^^ (-1))) &&& (to i ^^^ (-1))) n lv (sp, sr) = G at *
    obtain ⟨⟨gp, gr⟩, gn⟩ := G
    dsimp only at hcall hgo ⊢
    show mm_R S (d + 18) 34 34 [some (.ref 35), some (.int sl), some (.int sn), some (.int (nI i)), t4] [] (chm M co ln st en to sp (nI n) (nI lv) sc sr) _
    refine R_iload_n (q := 35) rfl rfl rfl ?_
    refine R_aload_n (q := 36) rfl rfl rfl ?_
    refine R_getf (q := 39) rfl rfl rfl ch_35 rfl ?_
    refine R_icmp_ge (q := 42) (t := 115) rfl rfl rfl (fun h39 => absurd h39 (nI_ge (by omega) (by omega))) (fun h39 => ?_)
    refine R_iload_n (q := 43) rfl rfl rfl ?_
    refine R_iconst (q := 44) (v := nI 1) rfl rfl (by decide) ?_
    refine R_iload_n (q := 45) rfl rfl rfl ?_
    refine R_ishl (q := 46) rfl rfl ?_
    refine R_iconst (q := 47) (v := (-1)) rfl rfl (by decide) ?_
    refine R_ixor (q := 48) rfl rfl ?_
    refine R_iand (q := 49) rfl rfl ?_
    refine R_aload_n (q := 50) rfl rfl rfl ?_
    refine R_getf (q := 53) rfl rfl rfl ch_35 rfl ?_
    refine R_iload_n (q := 54) rfl rfl rfl ?_
    refine R_iaload (q := 55) rfl rfl ch_40 (by omega) (by first | assumption | exact in_nI (by omega) (by decide)) ?_
    rw [cl_nI (by omega)]
    refine R_iconst (q := 56) (v := (-1)) rfl rfl (by decide) ?_
    refine R_ixor (q := 57) rfl rfl ?_
    refine R_iand (q := 58) rfl rfl ?_
    refine R_istore (q := 60) rfl rfl (Nat.le_of_ble_eq_true rfl) rfl ?_
    dsimp only [List.set]
    refine R_iload_n (q := 61) rfl rfl rfl ?_
    refine R_iload_n (q := 62) rfl rfl rfl ?_
    refine R_calls2 (q := 65) rfl rfl rfl rfl (Nat.le_of_ble_eq_true rfl) rfl ?_
    refine R_mono (R_deep (c142 (d := 0) (by omega)) (by omega)) (fun v62 M62 hr62 => ?_)
    obtain ⟨rfl, hm62⟩ := hr62
    rw [hm62]
    dsimp only [Option.toList, List.cons_append, List.nil_append]
    refine R_if_eq (q := 68) (t := 101) rfl rfl rfl (fun h65 => ?_) (fun h65 => ?_)
    · refine R_iload_n (q := 102) rfl rfl rfl ?_
      refine R_iconst (q := 103) (v := nI 1) rfl rfl (by decide) ?_
      refine R_iload_n (q := 104) rfl rfl rfl ?_
      refine R_ishl (q := 105) rfl rfl ?_
      refine R_iconst (q := 106) (v := (-1)) rfl rfl (by decide) ?_
      refine R_ixor (q := 107) rfl rfl ?_
      refine R_iand (q := 108) rfl rfl ?_
      refine R_istore_n (q := 109) rfl rfl (Nat.le_of_ble_eq_true rfl) rfl ?_
      dsimp only [List.set]
      refine R_iinc (q := 112) rfl rfl rfl (nI_i1 i) rfl ?_
      dsimp only [List.set]
      refine R_goto (t := 34) rfl rfl ?_
      first
        | (rw [if_pos (zb_ne0.mp h65), if_pos h77]
           exact hk ((sl &&& (bi i ^^^ (-1))) &&& (to i ^^^ (-1)), sn + Int32.ofInt (-1), sc ||| bi i, (gp, gr)) _ (by omega) hgo)
        | (rw [if_pos (zb_ne0.mp h65), if_neg h77]
           exact hk (sl &&& (bi i ^^^ (-1)), sn, sc, (gp, gr)) _ (by omega) hgo)
        | (rw [if_neg (by rw [zb_eq0.mp h65]; decide)]
           exact hk (sl &&& (bi i ^^^ (-1)), sn, sc, (sp, sr)) _ (by omega) hs)
    · refine R_aload_n (q := 69) rfl rfl rfl ?_
      refine R_iload (q := 71) rfl rfl rfl ?_
      refine R_callv1 (q := 74) rfl rfl rfl rfl rfl (Nat.le_of_ble_eq_true rfl) rfl ?_
      refine R_mono (hcall) (fun v71 M71 hr71 => ?_)
      obtain ⟨rfl, hm71⟩ := hr71
      replace hm71 : M71 = chm M co ln st en to gp (nI n) (nI lv) sc gr := hm71
      rw [hm71]
      dsimp only [Option.toList, List.cons_append, List.nil_append]
      refine R_iconst (q := 75) (v := nI 1) rfl rfl (by decide) ?_
      refine R_iadd (q := 76) rfl rfl ?_
      refine R_iload_n (q := 77) rfl rfl rfl ?_
      refine R_icmp_ne (q := 80) (t := 101) rfl rfl rfl (fun h77 => ?_) (fun h77 => ?_)
      · refine R_iload_n (q := 102) rfl rfl rfl ?_
        refine R_iconst (q := 103) (v := nI 1) rfl rfl (by decide) ?_
        refine R_iload_n (q := 104) rfl rfl rfl ?_
        refine R_ishl (q := 105) rfl rfl ?_
        refine R_iconst (q := 106) (v := (-1)) rfl rfl (by decide) ?_
        refine R_ixor (q := 107) rfl rfl ?_
        refine R_iand (q := 108) rfl rfl ?_
        refine R_istore_n (q := 109) rfl rfl (Nat.le_of_ble_eq_true rfl) rfl ?_
        dsimp only [List.set]
        refine R_iinc (q := 112) rfl rfl rfl (nI_i1 i) rfl ?_
        dsimp only [List.set]
        refine R_goto (t := 34) rfl rfl ?_
        first
          | (rw [if_pos (zb_ne0.mp h65), if_pos h77]
             exact hk ((sl &&& (bi i ^^^ (-1))) &&& (to i ^^^ (-1)), sn + Int32.ofInt (-1), sc ||| bi i, (gp, gr)) _ (by omega) hgo)
          | (rw [if_pos (zb_ne0.mp h65), if_neg h77]
             exact hk (sl &&& (bi i ^^^ (-1)), sn, sc, (gp, gr)) _ (by omega) hgo)
          | (rw [if_neg (by rw [zb_eq0.mp h65]; decide)]
             exact hk (sl &&& (bi i ^^^ (-1)), sn, sc, (sp, sr)) _ (by omega) hs)
      · refine R_aload_n (q := 81) rfl rfl rfl ?_
        first | refine R_dupa (q := 82) rfl rfl ?_ | refine R_dupi (q := 82) rfl rfl ?_
        refine R_getf (q := 85) rfl rfl rfl ch_35 rfl ?_
        refine R_iconst (q := 86) (v := nI 1) rfl rfl (by decide) ?_
        refine R_iload_n (q := 87) rfl rfl rfl ?_
        refine R_ishl (q := 88) rfl rfl ?_
        refine R_ior (q := 89) rfl rfl ?_
        refine R_putf (q := 92) rfl rfl rfl ch_35 (Nat.le_of_ble_eq_true rfl) rfl (fun hf => absurd hf (by decide)) rfl ?_
        dsimp only [List.set]
        rw [ch_p35]
        refine R_iload (q := 94) rfl rfl rfl ?_
        refine R_istore_n (q := 95) rfl rfl (Nat.le_of_ble_eq_true rfl) rfl ?_
        dsimp only [List.set]
        refine R_iinc (q := 98) rfl rfl rfl rfl rfl ?_
        dsimp only [List.set]
        refine R_goto (t := 109) rfl rfl ?_
        refine R_iinc (q := 112) rfl rfl rfl (nI_i1 i) rfl ?_
        dsimp only [List.set]
        refine R_goto (t := 34) rfl rfl ?_
        first
          | (rw [if_pos (zb_ne0.mp h65), if_pos h77]
             exact hk ((sl &&& (bi i ^^^ (-1))) &&& (to i ^^^ (-1)), sn + Int32.ofInt (-1), sc ||| bi i, (gp, gr)) _ (by omega) hgo)
          | (rw [if_pos (zb_ne0.mp h65), if_neg h77]
             exact hk (sl &&& (bi i ^^^ (-1)), sn, sc, (gp, gr)) _ (by omega) hgo)
          | (rw [if_neg (by rw [zb_eq0.mp h65]; decide)]
             exact hk (sl &&& (bi i ^^^ (-1)), sn, sc, (sp, sr)) _ (by omega) hs)
def chall (to : Nat → Int32) (n lv : Nat) (s : PS) : ZS := chl to n lv n 0 (bi n - nI 1, bcn (bi n - nI 1) - nI (ga to (bi n - nI 1) n lv s).2, nI 0, (ga to (bi n - nI 1) n lv s).1)
set_option maxRecDepth 8000 in
theorem c34 (hn : n ≤ 14) (hlv : lv ≤ n) (hs : okp pa) : mm_R S (d + 18) 34 0 (mm_en 34 [.ref 35]) [] (chm M co ln st en to pa (nI n) (nI lv) ch tr) (fun v M' => v = none ∧ M' = chz M co ln st en (ti ln st en n lv lv 0 (ifl (fun _ => nI 0) to n)) (nI n) (nI lv) (chall (ti ln st en n lv lv 0 (ifl (fun _ => nI 0) to n)) n lv (pa, tr))) := by
  have hcall := c37 (S := S) (d := d) (M := M) (co := co) (ln := ln) (st := st) (en := en) (to := (ti ln st en n lv lv 0 (ifl (fun _ => nI 0) to n))) (ch := nI 0) (among := bi n - nI 1) (s := (pa, tr)) hn hlv hs
  have hgo := ga_ok (to := (ti ln st en n lv lv 0 (ifl (fun _ => nI 0) to n))) (among := bi n - nI 1) (s := (pa, tr)) hn hlv hs
  unfold chall
  show mm_R S (d + 18) 34 0 [some (.ref 35), none, none, none, none] [] (chm M co ln st en to pa (nI n) (nI lv) ch tr) _
  refine R_aload_n (q := 1) rfl rfl rfl ?_
  refine R_iconst (q := 2) (v := nI 0) rfl rfl (by decide) ?_
  refine R_putf (q := 5) rfl rfl rfl ch_35 (Nat.le_of_ble_eq_true rfl) rfl (fun hf => absurd hf (by decide)) rfl ?_
  dsimp only [List.set]
  rw [ch_p35]
  refine R_aload_n (q := 6) rfl rfl rfl ?_
  refine R_callv0 (q := 9) rfl rfl rfl rfl ch_35 (Nat.le_of_ble_eq_true rfl) rfl ?_
  refine R_mono (R_deep (c21 (d := 0) (by omega)) (by omega)) (fun v6 M6 hr6 => ?_)
  obtain ⟨rfl, hm6⟩ := hr6
  rw [hm6]
  dsimp only [Option.toList, List.cons_append, List.nil_append]
  rw [zb_t hn]
  refine R_if_ne (q := 12) (t := 13) rfl rfl rfl (fun h9 => ?_) (fun h9 => absurd h9 (by decide))
  refine R_aload_n (q := 14) rfl rfl rfl ?_
  refine R_callv0 (q := 17) rfl rfl rfl rfl ch_35 (Nat.le_of_ble_eq_true rfl) rfl ?_
  refine R_mono (R_deep (c35 (d := 0) hn hlv) (by omega)) (fun v14 M14 hr14 => ?_)
  obtain ⟨rfl, hm14⟩ := hr14
  rw [hm14]
  dsimp only [Option.toList, List.cons_append, List.nil_append]
  refine R_iconst (q := 18) (v := nI 1) rfl rfl (by decide) ?_
  refine R_aload_n (q := 19) rfl rfl rfl ?_
  refine R_getf (q := 22) rfl rfl rfl ch_35 rfl ?_
  refine R_ishl (q := 23) rfl rfl ?_
  refine R_iconst (q := 24) (v := nI 1) rfl rfl (by decide) ?_
  refine R_isub (q := 25) rfl rfl ?_
  refine R_istore_n (q := 26) rfl rfl (Nat.le_of_ble_eq_true rfl) rfl ?_
  dsimp only [List.set]
  refine R_aload_n (q := 27) rfl rfl rfl ?_
  refine R_iload_n (q := 28) rfl rfl rfl ?_
  refine R_callv1 (q := 31) rfl rfl rfl rfl ch_35 (Nat.le_of_ble_eq_true rfl) rfl ?_
  refine R_mono (hcall) (fun v28 M28 hr28 => ?_)
  obtain ⟨rfl, hm28⟩ := hr28
  rw [hm28]
  dsimp only [Option.toList, List.cons_append, List.nil_append]
  refine R_istore_n (q := 32) rfl rfl (Nat.le_of_ble_eq_true rfl) rfl ?_
  dsimp only [List.set]
  refine R_iconst (q := 33) (v := nI 0) rfl rfl (by decide) ?_
  refine R_istore_n (q := 34) rfl rfl (Nat.le_of_ble_eq_true rfl) rfl ?_
  dsimp only [List.set]
  exact c34_loop hn hlv n 0 (bi n - nI 1, bcn (bi n - nI 1) - nI (ga (ti ln st en n lv lv 0 (ifl (fun _ => nI 0) to n)) (bi n - nI 1) n lv (pa, tr)).2, nI 0, (ga (ti ln st en n lv lv 0 (ifl (fun _ => nI 0) to n)) (bi n - nI 1) n lv (pa, tr)).1) _ (by omega) hgo
end P29
