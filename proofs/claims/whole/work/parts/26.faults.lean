/-! ===== lists of items as they grow ===== -/
abbrev IS : Type := Nat × (Nat → Int32)
def itm (M : mm_M) (a : Nat) (s : IS) : mm_M := mm_put (mm_put M (a + 1) (.inl (0, 256, .inl s.2))) a (.inr (3, [.ref (a + 1), .int (nI s.1)]))
def fapp (s : IS) (x y w h : Int32) : IS := if s.1 < 256 then (s.1 + 1, upd s.2 s.1 (pkd x y w h)) else s
theorem itm_IT {M : mm_M} {a : Nat} {s : IS} (hs : s.1 ≤ 256) : IT (itm M a s) a s.1 s.2 := ⟨mm_pe, by unfold itm; rw [mm_pn (by omega)]; exact mm_pe, hs⟩
theorem itm_self {M : mm_M} {a : Nat} {s : IS} (h : IT M a s.1 s.2) : itm M a s = M := by
  unfold itm
  rw [mm_pself (a := a + 1) h.2.1, mm_pself h.1]
theorem put2 {M : mm_M} {a b : Nat} {c c' e e' : mm_E} (h : a ≠ b) : mm_put (mm_put (mm_put (mm_put M a c) b e) a c') b e' = mm_put (mm_put M a c') b e' := by
  rw [mm_pcomm (M := mm_put M a c) (a := b) (b := a) (fun q => h q.symm), mm_pp, mm_pp]
theorem itm_CA {M : mm_M} {a b : Nat} {s : IS} {f : Nat → Int32} (h : CA M b f) (hb : b + 1 < a ∨ a + 1 < b) : CA (itm M a s) b f := by unfold itm; exact CA_off (CA_off h (by omega) (by omega)) (by omega) (by omega)
theorem fapp_le {s : IS} {x y w h : Int32} (hs : s.1 ≤ 256) : (fapp s x y w h).1 ≤ 256 := by
  unfold fapp
  split
  · show s.1 + 1 ≤ 256; omega
  · exact hs
section P26
variable {S : mm_S} {d : Nat} {M : mm_M} {a : Nat}
set_option maxRecDepth 8000 in
theorem c51_full {x y w h : Int32} {n : Nat} {p : Nat → Int32} (hi : IT M a n p) (hn : n = 256) : mm_R S d 51 0 (mm_en 51 [.ref a, .int x, .int y, .int w, .int h]) [] M (fun v M' => v = none ∧ M' = M) := by
  obtain ⟨h1, h2, h3⟩ := hi
  subst hn
  show mm_R S d 51 0 [some (.ref a), some (.int x), some (.int y), some (.int w), some (.int h)] [] M _
  refine R_aload_n (q := 1) rfl rfl rfl ?_
  refine R_getf (q := 4) rfl rfl rfl (by first | assumption | exact mm_pe | (rw [mm_pn (by omega)]; first | assumption | exact mm_pe | (rw [mm_pn (by omega)]; first | assumption | exact mm_pe | (rw [mm_pn (by omega)]; first | assumption | exact mm_pe | (rw [mm_pn (by omega)]; first | assumption | exact mm_pe | (rw [mm_pn (by omega)]; first | assumption | exact mm_pe)))))) rfl ?_
  refine R_sipush (q := 7) (v := nI 256) rfl rfl (by decide) ?_
  refine R_icmp_ge (q := 10) (t := 45) rfl rfl rfl (fun h7 => ?_) (fun h7 => absurd (by decide) h7)
  refine R_return rfl rfl ?_
  exact ⟨rfl, rfl⟩
set_option maxRecDepth 8000 in
theorem c51b {x y w h : Int32} {s : IS} (hs : s.1 ≤ 256) : mm_R S d 51 0 (mm_en 51 [.ref a, .int x, .int y, .int w, .int h]) [] (itm M a s) (fun v M' => v = none ∧ M' = itm M a (fapp s x y w h)) := by
  by_cases hn : s.1 < 256
  · refine R_mono (c51 (itm_IT hs) hn) (fun v M' hr => ⟨hr.1, ?_⟩)
    rw [hr.2]
    unfold fapp
    rw [if_pos hn]
    unfold itm
    exact put2 (by omega)
  · refine R_mono (c51_full (itm_IT hs) (by omega)) (fun v M' hr => ⟨hr.1, ?_⟩)
    rw [hr.2]
    unfold fapp
    rw [if_neg hn]
set_option maxRecDepth 8000 in
theorem c49b {s : IS} (hs : s.1 ≤ 256) : mm_R S d 49 0 (mm_en 49 [.ref a]) [] (itm M a s) (fun v M' => v = none ∧ M' = itm M a (0, s.2)) := by
  refine R_mono (c49 (itm_IT hs)) (fun v M' hr => ⟨hr.1, ?_⟩)
  rw [hr.2]
  unfold itm
  exact mm_pp
/-- the faults of one line: k places from i on -/
def ffx (lk : Int32) (g : Bool) (w : Nat) (P : IS → Nat → Nat → IS) : Nat → Nat → IS → IS
  | 0, _, s => s
  | k + 1, i, s => ffx lk g w P k (i + 1) (if 0 < flen lk i g w then P s i (flen lk i g w) else s)
def ffl (B : Nat → Int32) (g : Bool) (w : Nat) (P : Nat → IS → Nat → Nat → IS) : Nat → Nat → IS → IS
  | 0, _, s => s
  | k + 1, y, s => ffl B g w P k (y + 1) (ffx (lkd g (B y)) g w (P y) 16 0 s)
def Plev (y : Nat) (s : IS) (x n : Nat) : IS := fapp s (nI x) (nI y) (nI n) (nI 0)
def Pupr (x : Nat) (s : IS) (y n : Nat) : IS := fapp s (nI x) (nI y) (nI n) (nI 1)
def ffall (f : Nat → Int32) (g : Bool) (w : Nat) (p : Nat → Int32) : IS := ffl (fun x => colv f x 16) g w Pupr 16 0 (ffl f g w Plev 16 0 (0, p))
theorem ffx_le {lk : Int32} {g : Bool} {w : Nat} {P : IS → Nat → Nat → IS} (hP : ∀ s i n, s.1 ≤ 256 → (P s i n).1 ≤ 256) : ∀ k i s, s.1 ≤ 256 → (ffx lk g w P k i s).1 ≤ 256 := by
  intro k
  induction k with
  | zero => intro i s hs; exact hs
  | succ k ih =>
    intro i s hs
    refine ih (i + 1) _ ?_
    split
    · exact hP s i _ hs
    · exact hs
set_option maxRecDepth 8000 in
theorem c89_up {f : Nat → Int32} {g : Bool} {w : Nat} (hw : w < 100) (ha : CA M a f) (haa : a + 1 < 51 ∨ 52 < a) : ∀ (k y : Nat) (s : IS) (t6 t7 t8 : Option Value), y + k = 16 → s.1 ≤ 256 → mm_R S (d + 3) 89 76 [some (.ref 30), some (.ref a), some (.int (zb g)), some (.int (nI w)), some (.ref 51), some (.int (nI y)), t6, t7, t8] [] (itm M 51 s) (fun v M' => v = none ∧ M' = itm M 51 (ffl (fun x => colv f x 16) g w Pupr k y s)) := by
  intro k
  induction k with
  | zero =>
    intro y s t6 t7 t8 hy hs
    refine R_iload (q := 78) rfl rfl rfl ?_
    refine R_bipush (q := 80) (v := nI 16) rfl rfl (by decide) ?_
    refine R_icmp_ge (q := 83) (t := 141) rfl rfl rfl (fun h80 => ?_) (fun h80 => absurd (nI_le (by omega) (by omega)) h80)
    refine R_return rfl rfl ?_
    exact ⟨rfl, rfl⟩
  | succ k ih =>
    intro y s t6 t7 t8 hy hs
    have hin : ∀ (j x : Nat) (s : IS) (t8 : Option Value), x + j = 16 → s.1 ≤ 256 → mm_R S (d + 3) 89 94 [some (.ref 30), some (.ref a), some (.int (zb g)), some (.int (nI w)), some (.ref 51), some (.int (nI y)), some (.int (colv f y 16)), some (.int (nI x)), t8] [] (itm M 51 s) (fun v M' => v = none ∧ M' = itm M 51 (ffl (fun x => colv f x 16) g w Pupr k (y + 1) (ffx (lkd g (colv f y 16)) g w (Pupr y) j x s))) := by
      intro j
      induction j with
      | zero =>
        intro x s t8 hx hs
        refine R_iload (q := 96) rfl rfl rfl ?_
        refine R_bipush (q := 98) (v := nI 16) rfl rfl (by decide) ?_
        refine R_icmp_ge (q := 101) (t := 135) rfl rfl rfl (fun h98 => ?_) (fun h98 => absurd (nI_le (by omega) (by omega)) h98)
        refine R_iinc (q := 138) rfl rfl rfl (nI_i1 y) rfl ?_
        dsimp only [List.set]
        refine R_goto (t := 76) rfl rfl ?_
        exact ih (y + 1) s _ _ _ (by omega) hs
      | succ j ihj =>
        intro x s t8 hx hs
        have h51 := (itm_IT (M := M) (a := 51) hs).1
        have hfl : flen (lkd g (colv f y 16)) x g w ≤ 16 := by
          have hq := re_ge (bt (lkd g (colv f y 16))) (16 - x) x
          unfold flen
          split
          · omega
          · split
            · omega
            · split <;> omega
        refine R_iload (q := 96) rfl rfl rfl ?_
        refine R_bipush (q := 98) (v := nI 16) rfl rfl (by decide) ?_
        refine R_icmp_ge (q := 101) (t := 135) rfl rfl rfl (fun h98 => absurd h98 (nI_ge (by omega) (by omega))) (fun h98 => ?_)
        refine R_iload (q := 103) rfl rfl rfl ?_
        refine R_iload (q := 105) rfl rfl rfl ?_
        refine R_iload_n (q := 106) rfl rfl rfl ?_
        refine R_iload_n (q := 107) rfl rfl rfl ?_
        refine R_calls4 (q := 110) rfl rfl rfl rfl (Nat.le_of_ble_eq_true rfl) rfl ?_
        refine R_mono (R_deep (c90 (d := 0) (show x < 16 by omega) hw) (by omega)) (fun v107 M107 hr107 => ?_)
        obtain ⟨rfl, hm107⟩ := hr107
        rw [hm107]
        dsimp only [Option.toList, List.cons_append, List.nil_append]
        refine R_istore (q := 112) rfl rfl (Nat.le_of_ble_eq_true rfl) rfl ?_
        dsimp only [List.set]
        refine R_iload (q := 114) rfl rfl rfl ?_
        refine R_if_le (q := 117) (t := 129) rfl rfl rfl (fun h114 => ?_) (fun h114 => ?_)
        · refine R_iinc (q := 132) rfl rfl rfl (nI_i1 x) rfl ?_
          dsimp only [List.set]
          refine R_goto (t := 94) rfl rfl ?_
          have hk := ihj (x + 1) (if 0 < flen (lkd g (colv f y 16)) x g w then Pupr y s x (flen (lkd g (colv f y 16)) x g w) else s) (some (.int (nI (flen (lkd g (colv f y 16)) x g w)))) (by omega) (by
            split
            · exact fapp_le hs
            · exact hs)
          first
            | (have hpos : 0 < flen (lkd g (colv f y 16)) x g w := by
                 rcases Nat.eq_zero_or_pos (flen (lkd g (colv f y 16)) x g w) with q | q
                 · rw [q] at h114; exact absurd (by decide) h114
                 · exact q
               rw [if_pos hpos] at hk
               refine R_mono hk (fun v M' hr => ⟨hr.1, ?_⟩)
               rw [hr.2]
               show itm M 51 _ = itm M 51 _
               rw [show ffx (lkd g (colv f y 16)) g w (Pupr y) (j + 1) x s = ffx (lkd g (colv f y 16)) g w (Pupr y) j (x + 1) (Pupr y s x (flen (lkd g (colv f y 16)) x g w)) from (by
                 show ffx _ _ _ _ j (x + 1) (if 0 < flen (lkd g (colv f y 16)) x g w then _ else s) = _
                 rw [if_pos hpos])]
               done)
            | (have hz : ¬ 0 < flen (lkd g (colv f y 16)) x g w := fun q => nI_nle q (by omega) h114
               rw [if_neg hz] at hk
               refine R_mono hk (fun v M' hr => ⟨hr.1, ?_⟩)
               rw [hr.2]
               show itm M 51 _ = itm M 51 _
               rw [show ffx (lkd g (colv f y 16)) g w (Pupr y) (j + 1) x s = ffx (lkd g (colv f y 16)) g w (Pupr y) j (x + 1) s from (by
                 show ffx _ _ _ _ j (x + 1) (if 0 < flen (lkd g (colv f y 16)) x g w then _ else s) = _
                 rw [if_neg hz])]
               done)
        · refine R_aload (q := 119) rfl rfl rfl ?_
          refine R_iload (q := 121) rfl rfl rfl ?_
          refine R_iload (q := 123) rfl rfl rfl ?_
          refine R_iload (q := 125) rfl rfl rfl ?_
          refine R_iconst (q := 126) (v := nI 1) rfl rfl (by decide) ?_
          refine R_callv4 (q := 129) rfl rfl rfl rfl h51 (Nat.le_of_ble_eq_true rfl) rfl ?_
          refine R_mono (c51b hs) (fun v126 M126 hr126 => ?_)
          obtain ⟨rfl, hm126⟩ := hr126
          rw [hm126]
          dsimp only [Option.toList, List.cons_append, List.nil_append]
          refine R_iinc (q := 132) rfl rfl rfl (nI_i1 x) rfl ?_
          dsimp only [List.set]
          refine R_goto (t := 94) rfl rfl ?_
          have hk := ihj (x + 1) (if 0 < flen (lkd g (colv f y 16)) x g w then Pupr y s x (flen (lkd g (colv f y 16)) x g w) else s) (some (.int (nI (flen (lkd g (colv f y 16)) x g w)))) (by omega) (by
            split
            · exact fapp_le hs
            · exact hs)
          first
            | (have hpos : 0 < flen (lkd g (colv f y 16)) x g w := by
                 rcases Nat.eq_zero_or_pos (flen (lkd g (colv f y 16)) x g w) with q | q
                 · rw [q] at h114; exact absurd (by decide) h114
                 · exact q
               rw [if_pos hpos] at hk
               refine R_mono hk (fun v M' hr => ⟨hr.1, ?_⟩)
               rw [hr.2]
               show itm M 51 _ = itm M 51 _
               rw [show ffx (lkd g (colv f y 16)) g w (Pupr y) (j + 1) x s = ffx (lkd g (colv f y 16)) g w (Pupr y) j (x + 1) (Pupr y s x (flen (lkd g (colv f y 16)) x g w)) from (by
                 show ffx _ _ _ _ j (x + 1) (if 0 < flen (lkd g (colv f y 16)) x g w then _ else s) = _
                 rw [if_pos hpos])]
               done)
            | (have hz : ¬ 0 < flen (lkd g (colv f y 16)) x g w := fun q => nI_nle q (by omega) h114
               rw [if_neg hz] at hk
               refine R_mono hk (fun v M' hr => ⟨hr.1, ?_⟩)
               rw [hr.2]
               show itm M 51 _ = itm M 51 _
               rw [show ffx (lkd g (colv f y 16)) g w (Pupr y) (j + 1) x s = ffx (lkd g (colv f y 16)) g w (Pupr y) j (x + 1) s from (by
                 show ffx _ _ _ _ j (x + 1) (if 0 < flen (lkd g (colv f y 16)) x g w then _ else s) = _
                 rw [if_neg hz])]
               done)
    refine R_iload (q := 78) rfl rfl rfl ?_
    refine R_bipush (q := 80) (v := nI 16) rfl rfl (by decide) ?_
    refine R_icmp_ge (q := 83) (t := 141) rfl rfl rfl (fun h80 => absurd h80 (nI_ge (by omega) (by omega))) (fun h80 => ?_)
    refine R_aload_n (q := 84) rfl rfl rfl ?_
    refine R_iload (q := 86) rfl rfl rfl ?_
    refine R_callv1 (q := 89) rfl rfl rfl rfl (itm_CA ha haa).1 (Nat.le_of_ble_eq_true rfl) rfl ?_
    refine R_mono (c3 (itm_CA ha haa)) (fun v86 M86 hr86 => ?_)
    obtain ⟨rfl, hm86⟩ := hr86
    rw [hm86]
    dsimp only [Option.toList, List.cons_append, List.nil_append]
    refine R_istore (q := 91) rfl rfl (Nat.le_of_ble_eq_true rfl) rfl ?_
    dsimp only [List.set]
    refine R_iconst (q := 92) (v := nI 0) rfl rfl (by decide) ?_
    refine R_istore (q := 94) rfl rfl (Nat.le_of_ble_eq_true rfl) rfl ?_
    dsimp only [List.set]
    exact hin 16 0 s _ rfl hs
set_option maxRecDepth 8000 in
theorem c89_lev {f : Nat → Int32} {g : Bool} {w : Nat} (hw : w < 100) (ha : CA M a f) (haa : a + 1 < 51 ∨ 52 < a) : ∀ (k y : Nat) (s : IS) (t6 t7 t8 : Option Value), y + k = 16 → s.1 ≤ 256 → mm_R S (d + 3) 89 8 [some (.ref 30), some (.ref a), some (.int (zb g)), some (.int (nI w)), some (.ref 51), some (.int (nI y)), t6, t7, t8] [] (itm M 51 s) (fun v M' => v = none ∧ M' = itm M 51 (ffl (fun x => colv f x 16) g w Pupr 16 0 (ffl f g w Plev k y s))) := by
  intro k
  induction k with
  | zero =>
    intro y s t6 t7 t8 hy hs
    refine R_iload (q := 10) rfl rfl rfl ?_
    refine R_bipush (q := 12) (v := nI 16) rfl rfl (by decide) ?_
    refine R_icmp_ge (q := 15) (t := 73) rfl rfl rfl (fun h12 => ?_) (fun h12 => absurd (nI_le (by omega) (by omega)) h12)
    refine R_iconst (q := 74) (v := nI 0) rfl rfl (by decide) ?_
    refine R_istore (q := 76) rfl rfl (Nat.le_of_ble_eq_true rfl) rfl ?_
    dsimp only [List.set]
    exact c89_up hw ha haa 16 0 s _ _ _ rfl hs
  | succ k ih =>
    intro y s t6 t7 t8 hy hs
    have hin : ∀ (j x : Nat) (s : IS) (t8 : Option Value), x + j = 16 → s.1 ≤ 256 → mm_R S (d + 3) 89 26 [some (.ref 30), some (.ref a), some (.int (zb g)), some (.int (nI w)), some (.ref 51), some (.int (nI y)), some (.int (f y)), some (.int (nI x)), t8] [] (itm M 51 s) (fun v M' => v = none ∧ M' = itm M 51 (ffl (fun x => colv f x 16) g w Pupr 16 0 (ffl f g w Plev k (y + 1) (ffx (lkd g (f y)) g w (Plev y) j x s)))) := by
      intro j
      induction j with
      | zero =>
        intro x s t8 hx hs
        refine R_iload (q := 28) rfl rfl rfl ?_
        refine R_bipush (q := 30) (v := nI 16) rfl rfl (by decide) ?_
        refine R_icmp_ge (q := 33) (t := 67) rfl rfl rfl (fun h30 => ?_) (fun h30 => absurd (nI_le (by omega) (by omega)) h30)
        refine R_iinc (q := 70) rfl rfl rfl (nI_i1 y) rfl ?_
        dsimp only [List.set]
        refine R_goto (t := 8) rfl rfl ?_
        exact ih (y + 1) s _ _ _ (by omega) hs
      | succ j ihj =>
        intro x s t8 hx hs
        have h51 := (itm_IT (M := M) (a := 51) hs).1
        have hfl : flen (lkd g (f y)) x g w ≤ 16 := by
          have hq := re_ge (bt (lkd g (f y))) (16 - x) x
          unfold flen
          split
          · omega
          · split
            · omega
            · split <;> omega
        refine R_iload (q := 28) rfl rfl rfl ?_
        refine R_bipush (q := 30) (v := nI 16) rfl rfl (by decide) ?_
        refine R_icmp_ge (q := 33) (t := 67) rfl rfl rfl (fun h30 => absurd h30 (nI_ge (by omega) (by omega))) (fun h30 => ?_)
        refine R_iload (q := 35) rfl rfl rfl ?_
        refine R_iload (q := 37) rfl rfl rfl ?_
        refine R_iload_n (q := 38) rfl rfl rfl ?_
        refine R_iload_n (q := 39) rfl rfl rfl ?_
        refine R_calls4 (q := 42) rfl rfl rfl rfl (Nat.le_of_ble_eq_true rfl) rfl ?_
        refine R_mono (R_deep (c90 (d := 0) (show x < 16 by omega) hw) (by omega)) (fun v39 M39 hr39 => ?_)
        obtain ⟨rfl, hm39⟩ := hr39
        rw [hm39]
        dsimp only [Option.toList, List.cons_append, List.nil_append]
        refine R_istore (q := 44) rfl rfl (Nat.le_of_ble_eq_true rfl) rfl ?_
        dsimp only [List.set]
        refine R_iload (q := 46) rfl rfl rfl ?_
        refine R_if_le (q := 49) (t := 61) rfl rfl rfl (fun h46 => ?_) (fun h46 => ?_)
        · refine R_iinc (q := 64) rfl rfl rfl (nI_i1 x) rfl ?_
          dsimp only [List.set]
          refine R_goto (t := 26) rfl rfl ?_
          have hk := ihj (x + 1) (if 0 < flen (lkd g (f y)) x g w then Plev y s x (flen (lkd g (f y)) x g w) else s) (some (.int (nI (flen (lkd g (f y)) x g w)))) (by omega) (by
            split
            · exact fapp_le hs
            · exact hs)
          first
            | (have hpos : 0 < flen (lkd g (f y)) x g w := by
                 rcases Nat.eq_zero_or_pos (flen (lkd g (f y)) x g w) with q | q
                 · rw [q] at h46; exact absurd (by decide) h46
                 · exact q
               rw [if_pos hpos] at hk
               refine R_mono hk (fun v M' hr => ⟨hr.1, ?_⟩)
               rw [hr.2]
               show itm M 51 _ = itm M 51 _
               rw [show ffx (lkd g (f y)) g w (Plev y) (j + 1) x s = ffx (lkd g (f y)) g w (Plev y) j (x + 1) (Plev y s x (flen (lkd g (f y)) x g w)) from (by
                 show ffx _ _ _ _ j (x + 1) (if 0 < flen (lkd g (f y)) x g w then _ else s) = _
                 rw [if_pos hpos])]
               done)
            | (have hz : ¬ 0 < flen (lkd g (f y)) x g w := fun q => nI_nle q (by omega) h46
               rw [if_neg hz] at hk
               refine R_mono hk (fun v M' hr => ⟨hr.1, ?_⟩)
               rw [hr.2]
               show itm M 51 _ = itm M 51 _
               rw [show ffx (lkd g (f y)) g w (Plev y) (j + 1) x s = ffx (lkd g (f y)) g w (Plev y) j (x + 1) s from (by
                 show ffx _ _ _ _ j (x + 1) (if 0 < flen (lkd g (f y)) x g w then _ else s) = _
                 rw [if_neg hz])]
               done)
        · refine R_aload (q := 51) rfl rfl rfl ?_
          refine R_iload (q := 53) rfl rfl rfl ?_
          refine R_iload (q := 55) rfl rfl rfl ?_
          refine R_iload (q := 57) rfl rfl rfl ?_
          refine R_iconst (q := 58) (v := nI 0) rfl rfl (by decide) ?_
          refine R_callv4 (q := 61) rfl rfl rfl rfl h51 (Nat.le_of_ble_eq_true rfl) rfl ?_
          refine R_mono (c51b hs) (fun v58 M58 hr58 => ?_)
          obtain ⟨rfl, hm58⟩ := hr58
          rw [hm58]
          dsimp only [Option.toList, List.cons_append, List.nil_append]
          refine R_iinc (q := 64) rfl rfl rfl (nI_i1 x) rfl ?_
          dsimp only [List.set]
          refine R_goto (t := 26) rfl rfl ?_
          have hk := ihj (x + 1) (if 0 < flen (lkd g (f y)) x g w then Plev y s x (flen (lkd g (f y)) x g w) else s) (some (.int (nI (flen (lkd g (f y)) x g w)))) (by omega) (by
            split
            · exact fapp_le hs
            · exact hs)
          first
            | (have hpos : 0 < flen (lkd g (f y)) x g w := by
                 rcases Nat.eq_zero_or_pos (flen (lkd g (f y)) x g w) with q | q
                 · rw [q] at h46; exact absurd (by decide) h46
                 · exact q
               rw [if_pos hpos] at hk
               refine R_mono hk (fun v M' hr => ⟨hr.1, ?_⟩)
               rw [hr.2]
               show itm M 51 _ = itm M 51 _
               rw [show ffx (lkd g (f y)) g w (Plev y) (j + 1) x s = ffx (lkd g (f y)) g w (Plev y) j (x + 1) (Plev y s x (flen (lkd g (f y)) x g w)) from (by
                 show ffx _ _ _ _ j (x + 1) (if 0 < flen (lkd g (f y)) x g w then _ else s) = _
                 rw [if_pos hpos])]
               done)
            | (have hz : ¬ 0 < flen (lkd g (f y)) x g w := fun q => nI_nle q (by omega) h46
               rw [if_neg hz] at hk
               refine R_mono hk (fun v M' hr => ⟨hr.1, ?_⟩)
               rw [hr.2]
               show itm M 51 _ = itm M 51 _
               rw [show ffx (lkd g (f y)) g w (Plev y) (j + 1) x s = ffx (lkd g (f y)) g w (Plev y) j (x + 1) s from (by
                 show ffx _ _ _ _ j (x + 1) (if 0 < flen (lkd g (f y)) x g w then _ else s) = _
                 rw [if_neg hz])]
               done)
    refine R_iload (q := 10) rfl rfl rfl ?_
    refine R_bipush (q := 12) (v := nI 16) rfl rfl (by decide) ?_
    refine R_icmp_ge (q := 15) (t := 73) rfl rfl rfl (fun h12 => absurd h12 (nI_ge (by omega) (by omega))) (fun h12 => ?_)
    refine R_aload_n (q := 16) rfl rfl rfl ?_
    refine R_iload (q := 18) rfl rfl rfl ?_
    refine R_callv1 (q := 21) rfl rfl rfl rfl (itm_CA ha haa).1 (Nat.le_of_ble_eq_true rfl) rfl ?_
    refine R_mono (c2 (itm_CA ha haa)) (fun v18 M18 hr18 => ?_)
    obtain ⟨rfl, hm18⟩ := hr18
    rw [hm18]
    dsimp only [Option.toList, List.cons_append, List.nil_append]
    rw [rowv_nI (by omega)]
    refine R_istore (q := 23) rfl rfl (Nat.le_of_ble_eq_true rfl) rfl ?_
    dsimp only [List.set]
    refine R_iconst (q := 24) (v := nI 0) rfl rfl (by decide) ?_
    refine R_istore (q := 26) rfl rfl (Nat.le_of_ble_eq_true rfl) rfl ?_
    dsimp only [List.set]
    exact hin 16 0 s _ rfl hs
set_option maxRecDepth 8000 in
theorem c89 {f p : Nat → Int32} {g : Bool} {n w : Nat} (hw : w < 100) (ha : CA M a f) (haa : a + 1 < 51 ∨ 52 < a) (hi : IT M 51 n p) : mm_R S (d + 3) 89 0 (mm_en 89 [.ref 30, .ref a, .int (zb g), .int (nI w), .ref 51]) [] M (fun v M' => v = none ∧ M' = itm M 51 (ffall f g w p)) := by
  refine R_atM (itm_self (s := (n, p)) hi) ?_
  have h51 := (itm_IT (M := M) (a := 51) (s := (n, p)) hi.2.2).1
  show mm_R S (d + 3) 89 0 [some (.ref 30), some (.ref a), some (.int (zb g)), some (.int (nI w)), some (.ref 51), none, none, none, none] [] (itm M 51 (n, p)) _
  refine R_aload (q := 2) rfl rfl rfl ?_
  refine R_callv0 (q := 5) rfl rfl rfl rfl h51 (Nat.le_of_ble_eq_true rfl) rfl ?_
  refine R_mono (c49b (s := (n, p)) hi.2.2) (fun v2 M2 hr2 => ?_)
  obtain ⟨rfl, hm2⟩ := hr2
  rw [hm2]
  dsimp only [Option.toList, List.cons_append, List.nil_append]
  refine R_iconst (q := 6) (v := nI 0) rfl rfl (by decide) ?_
  refine R_istore (q := 8) rfl rfl (Nat.le_of_ble_eq_true rfl) rfl ?_
  dsimp only [List.set]
  exact c89_lev hw ha haa 16 0 (0, p) _ _ _ rfl (Nat.zero_le _)
end P26
