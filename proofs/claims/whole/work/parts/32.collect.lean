/-- what is left of the shape, and the pieces so far -/
abbrev CLS : Type := (Nat → Int32) × IS
def pw (uc l : Nat → Int32) (x y : Nat) : Nat := goR (bt (l y)) (bt (uc y)) (15 - x) (x + 1) - x
def ph (lc l : Nat → Int32) (x y : Nat) : Nat := goR (fun e => bt (l e) x) (fun e => bt (lc e) x) (15 - y) (y + 1) - y
def clrem (l : Nat → Int32) (x y w h : Nat) : Nat → Int32 := ifr (fun i => l i &&& (spn x (x + w) ^^^ (-1))) l y (y + h)
def clx (lc uc : Nat → Int32) (y : Nat) : Nat → Nat → CLS → CLS
  | 0, _, s => s
  | k + 1, x, s => clx lc uc y k (x + 1) (if bt (s.1 y) x = true then (clrem s.1 x y (pw uc s.1 x y) (ph lc s.1 x y), fapp s.2 (nI x) (nI y) (nI (pw uc s.1 x y)) (nI (ph lc s.1 x y))) else s)
def cly (lc uc : Nat → Int32) : Nat → Nat → CLS → CLS
  | 0, _, s => s
  | k + 1, y, s => cly lc uc k (y + 1) (clx lc uc y 16 0 s)
def col (M : mm_M) (s : CLS) : mm_M := itm (mm_put M 48 (ro s.1)) 49 s.2
section P32
variable {S : mm_S} {d : Nat} {M : mm_M} {lc uc f : Nat → Int32} {a : Nat}
theorem pw_le {uc l : Nat → Int32} {x y : Nat} (hx : x < 16) : 1 ≤ pw uc l x y ∧ x + pw uc l x y ≤ 16 := by
  unfold pw
  have h1 := goR_ge (g := bt (l y)) (c := bt (uc y)) (15 - x) (x + 1)
  have h2 := goR_le (g := bt (l y)) (c := bt (uc y)) (15 - x) (x + 1)
  omega
theorem ph_le {lc l : Nat → Int32} {x y : Nat} (hy : y < 16) : 1 ≤ ph lc l x y ∧ y + ph lc l x y ≤ 16 := by
  unfold ph
  have h1 := goR_ge (g := fun e => bt (l e) x) (c := fun e => bt (lc e) x) (15 - y) (y + 1)
  have h2 := goR_le (g := fun e => bt (l e) x) (c := fun e => bt (lc e) x) (15 - y) (y + 1)
  omega
/-- the cells that collect reads -/
def CLF (M : mm_M) (lc uc : Nat → Int32) : Prop := CUF M ∧ M.1 43 = some (ia 17 lc) ∧ M.1 44 = some (ia 17 uc) ∧ M.1 47 = some (.inr (0, [.ref 48]))
theorem col_off {s : CLS} {k : Nat} (hk : k < 48 ∨ 50 < k) : (col M s).1 k = M.1 k := by
  unfold col itm
  rw [mm_pn (by omega), mm_pn (by omega), mm_pn (by omega)]
theorem col_l {s : CLS} (h : CLF M lc uc) : CA (col M s) 47 s.1 := ⟨by rw [col_off (by omega)]; exact h.2.2.2, by unfold col itm; rw [mm_pn (by decide), mm_pn (by decide)]; exact mm_pe⟩
theorem col_p {s : CLS} : col M s = itm (mm_put M 48 (ro s.1)) 49 s.2 := rfl
theorem col_put {s : CLS} {l : Nat → Int32} : mm_put (col M s) 48 (ro l) = col M (l, s.2) := by
  unfold col itm
  dsimp only
  rw [mm_pcomm (a := 49) (b := 48) (by decide), mm_pcomm (a := 49 + 1) (b := 48) (by decide), mm_pp]
set_option maxRecDepth 8000 in
theorem c45_loop (h : CLF M lc uc) : ∀ (k y : Nat) (s : CLS) (t4 t5 t6 : Option Value), y + k = 16 → s.2.1 ≤ 256 → mm_R S (d + 3) 45 14 [some (.ref 42), some (.ref a), some (.ref 49), some (.int (nI y)), t4, t5, t6] [] (col M s) (fun v M' => v = none ∧ M' = col M (cly lc uc k y s)) := by
  intro k
  induction k with
  | zero =>
    intro y s t4 t5 t6 hy hs
    refine R_iload_n (q := 15) rfl rfl rfl ?_
    refine R_bipush (q := 17) (v := nI 16) rfl rfl (by decide) ?_
    refine R_icmp_ge (q := 20) (t := 98) rfl rfl rfl (fun h17 => ?_) (fun h17 => absurd (nI_le (by omega) (by omega)) h17)
    refine R_return rfl rfl ?_
    exact ⟨rfl, rfl⟩
  | succ k ih =>
    intro y s t4 t5 t6 hy hs
    have hin : ∀ (j x : Nat) (s : CLS) (t5 t6 : Option Value), x + j = 16 → s.2.1 ≤ 256 → mm_R S (d + 3) 45 23 [some (.ref 42), some (.ref a), some (.ref 49), some (.int (nI y)), some (.int (nI x)), t5, t6] [] (col M s) (fun v M' => v = none ∧ M' = col M (cly lc uc k (y + 1) (clx lc uc y j x s))) := by
      intro j
      induction j with
      | zero =>
        intro x s t5 t6 hx hs
        refine R_iload (q := 25) rfl rfl rfl ?_
        refine R_bipush (q := 27) (v := nI 16) rfl rfl (by decide) ?_
        refine R_icmp_ge (q := 30) (t := 92) rfl rfl rfl (fun h27 => ?_) (fun h27 => absurd (nI_le (by omega) (by omega)) h27)
        refine R_iinc (q := 95) rfl rfl rfl (nI_i1 y) rfl ?_
        dsimp only [List.set]
        refine R_goto (t := 14) rfl rfl ?_
        exact ih (y + 1) s _ _ _ (by omega) hs
      | succ j ihj =>
        intro x s t5 t6 hx hs
        have h42 : (col M s).1 42 = _ := (col_off (by omega)).trans h.1
        have h43 : (col M s).1 43 = some (ia 17 lc) := (col_off (by omega)).trans h.2.1
        have h44 : (col M s).1 44 = some (ia 17 uc) := (col_off (by omega)).trans h.2.2.1
        have hl := col_l (s := s) h
        have hl1 := hl.1
        have hpw := pw_le (uc := uc) (l := s.1) (x := x) (y := y) (by omega)
        have hph := ph_le (lc := lc) (l := s.1) (x := x) (y := y) (by omega)
        have hst : clx lc uc y (j + 1) x s = clx lc uc y j (x + 1) (if bt (s.1 y) x = true then (clrem s.1 x y (pw uc s.1 x y) (ph lc s.1 x y), fapp s.2 (nI x) (nI y) (nI (pw uc s.1 x y)) (nI (ph lc s.1 x y))) else s) := rfl
        rw [hst]
        have h49 := (itm_IT (M := mm_put M 48 (ro (clrem s.1 x y (pw uc s.1 x y) (ph lc s.1 x y)))) (a := 49) (s := s.2) hs).1
        refine R_iload (q := 25) rfl rfl rfl ?_
        refine R_bipush (q := 27) (v := nI 16) rfl rfl (by decide) ?_
        refine R_icmp_ge (q := 30) (t := 92) rfl rfl rfl (fun h27 => absurd h27 (nI_ge (by omega) (by omega))) (fun h27 => ?_)
        refine R_aload_n (q := 31) rfl rfl rfl ?_
        refine R_getf (q := 34) rfl rfl rfl h42 rfl ?_
        refine R_iload (q := 36) rfl rfl rfl ?_
        refine R_iload_n (q := 37) rfl rfl rfl ?_
        refine R_callv2 (q := 40) rfl rfl rfl rfl hl1 (Nat.le_of_ble_eq_true rfl) rfl ?_
        refine R_mono (R_deep (c4 (d := 0) hl) (by omega)) (fun v37 M37 hr37 => ?_)
        obtain ⟨rfl, hm37⟩ := hr37
        rw [hm37]
        dsimp only [Option.toList, List.cons_append, List.nil_append]
        rw [holds_eq (by omega) (by omega)]
        refine R_if_eq (q := 43) (t := 86) rfl rfl rfl (fun h40 => ?_) (fun h40 => ?_)
        · refine R_iinc (q := 89) rfl rfl rfl (nI_i1 x) rfl ?_
          dsimp only [List.set]
          refine R_goto (t := 23) rfl rfl ?_
          first
            | (rw [if_pos (zb_ne0.mp h40)]
               exact ihj (x + 1) (clrem s.1 x y (pw uc s.1 x y) (ph lc s.1 x y), fapp s.2 (nI x) (nI y) (nI (pw uc s.1 x y)) (nI (ph lc s.1 x y))) _ _ (by omega) (fapp_le hs))
            | (rw [if_neg (by rw [zb_eq0.mp h40]; decide)]
               exact ihj (x + 1) s _ _ (by omega) hs)
        · refine R_aload_n (q := 44) rfl rfl rfl ?_
          refine R_iload (q := 46) rfl rfl rfl ?_
          refine R_iload_n (q := 47) rfl rfl rfl ?_
          refine R_callv2 (q := 50) rfl rfl rfl rfl h42 (Nat.le_of_ble_eq_true rfl) rfl ?_
          refine R_mono (c46 h42 h44 hl (by omega) (by omega)) (fun v47 M47 hr47 => ?_)
          obtain ⟨rfl, hm47⟩ := hr47
          rw [hm47]
          dsimp only [Option.toList, List.cons_append, List.nil_append]
          refine R_istore (q := 52) rfl rfl (Nat.le_of_ble_eq_true rfl) rfl ?_
          dsimp only [List.set]
          refine R_aload_n (q := 53) rfl rfl rfl ?_
          refine R_iload (q := 55) rfl rfl rfl ?_
          refine R_iload_n (q := 56) rfl rfl rfl ?_
          refine R_callv2 (q := 59) rfl rfl rfl rfl h42 (Nat.le_of_ble_eq_true rfl) rfl ?_
          refine R_mono (c47 h42 h43 hl (by omega) (by omega)) (fun v56 M56 hr56 => ?_)
          obtain ⟨rfl, hm56⟩ := hr56
          rw [hm56]
          dsimp only [Option.toList, List.cons_append, List.nil_append]
          refine R_istore (q := 61) rfl rfl (Nat.le_of_ble_eq_true rfl) rfl ?_
          dsimp only [List.set]
          refine R_aload_n (q := 62) rfl rfl rfl ?_
          refine R_getf (q := 65) rfl rfl rfl h42 rfl ?_
          refine R_iload (q := 67) rfl rfl rfl ?_
          refine R_iload_n (q := 68) rfl rfl rfl ?_
          refine R_iload (q := 70) rfl rfl rfl ?_
          refine R_iload (q := 72) rfl rfl rfl ?_
          refine R_callv4 (q := 75) rfl rfl rfl rfl hl1 (Nat.le_of_ble_eq_true rfl) rfl ?_
          refine R_mono (R_deep (c13 (d := 0) (w := pw uc s.1 x y) (h := ph lc s.1 x y) hpw hph hl) (by omega)) (fun v72 M72 hr72 => ?_)
          obtain ⟨rfl, hm72⟩ := hr72
          rw [col_put] at hm72
          replace hm72 : M72 = itm (mm_put M 48 (ro (clrem s.1 x y (pw uc s.1 x y) (ph lc s.1 x y)))) 49 s.2 := hm72
          rw [hm72]
          dsimp only [Option.toList, List.cons_append, List.nil_append]
          refine R_aload_n (q := 76) rfl rfl rfl ?_
          refine R_iload (q := 78) rfl rfl rfl ?_
          refine R_iload_n (q := 79) rfl rfl rfl ?_
          refine R_iload (q := 81) rfl rfl rfl ?_
          refine R_iload (q := 83) rfl rfl rfl ?_
          refine R_callv4 (q := 86) rfl rfl rfl rfl h49 (Nat.le_of_ble_eq_true rfl) rfl ?_
          refine R_mono (c51b hs) (fun v83 M83 hr83 => ?_)
          obtain ⟨rfl, hm83⟩ := hr83
          rw [hm83]
          dsimp only [Option.toList, List.cons_append, List.nil_append]
          refine R_iinc (q := 89) rfl rfl rfl (nI_i1 x) rfl ?_
          dsimp only [List.set]
          refine R_goto (t := 23) rfl rfl ?_
          first
            | (rw [if_pos (zb_ne0.mp h40)]
               exact ihj (x + 1) (clrem s.1 x y (pw uc s.1 x y) (ph lc s.1 x y), fapp s.2 (nI x) (nI y) (nI (pw uc s.1 x y)) (nI (ph lc s.1 x y))) _ _ (by omega) (fapp_le hs))
            | (rw [if_neg (by rw [zb_eq0.mp h40]; decide)]
               exact ihj (x + 1) s _ _ (by omega) hs)
    refine R_iload_n (q := 15) rfl rfl rfl ?_
    refine R_bipush (q := 17) (v := nI 16) rfl rfl (by decide) ?_
    refine R_icmp_ge (q := 20) (t := 98) rfl rfl rfl (fun h17 => absurd h17 (nI_ge (by omega) (by omega))) (fun h17 => ?_)
    refine R_iconst (q := 21) (v := nI 0) rfl rfl (by decide) ?_
    refine R_istore (q := 23) rfl rfl (Nat.le_of_ble_eq_true rfl) rfl ?_
    dsimp only [List.set]
    exact hin 16 0 s _ _ rfl hs
def clall (lc uc f l : Nat → Int32) (p : Nat → Int32) : CLS := cly lc uc 16 0 (ifl f l 16, (0, p))
set_option maxRecDepth 8000 in
theorem c45 {l p : Nat → Int32} {n : Nat} (h : CLF M lc uc) (hl : M.1 48 = some (ro l)) (hi : IT M 49 n p) (ha : CA M a f) (haa : a + 1 < 47 ∨ 50 < a) : mm_R S (d + 3) 45 0 (mm_en 45 [.ref 42, .ref a, .ref 49]) [] M (fun v M' => v = none ∧ M' = col M (clall lc uc f l p)) := by
  have e0 : col M (l, (n, p)) = M := by
    unfold col
    rw [mm_pself hl]
    exact itm_self (s := (n, p)) hi
  refine R_atM e0 ?_
  have h49 := (itm_IT (M := mm_put M 48 (ro l)) (a := 49) (s := (n, p)) hi.2.2).1
  have g42 : (col M (l, (0, p))).1 42 = _ := (col_off (by omega)).trans h.1
  have gl := col_l (s := (l, (0, p))) h
  have gl1 := gl.1
  have ga2 : CA (col M (l, (0, p))) a f := ⟨by rw [col_off (by omega)]; exact ha.1, by rw [col_off (by omega)]; exact ha.2⟩
  show mm_R S (d + 3) 45 0 [some (.ref 42), some (.ref a), some (.ref 49), none, none, none, none] [] (itm (mm_put M 48 (ro l)) 49 (n, p)) _
  refine R_aload_n (q := 1) rfl rfl rfl ?_
  refine R_callv0 (q := 4) rfl rfl rfl rfl h49 (Nat.le_of_ble_eq_true rfl) rfl ?_
  refine R_mono (c49b (s := (n, p)) hi.2.2) (fun v1 M1 hr1 => ?_)
  obtain ⟨rfl, hm1⟩ := hr1
  replace hm1 : M1 = col M (l, (0, p)) := hm1
  rw [hm1]
  dsimp only [Option.toList, List.cons_append, List.nil_append]
  refine R_aload_n (q := 5) rfl rfl rfl ?_
  refine R_getf (q := 8) rfl rfl rfl g42 rfl ?_
  refine R_aload_n (q := 9) rfl rfl rfl ?_
  refine R_callv1 (q := 12) rfl rfl rfl rfl gl1 (Nat.le_of_ble_eq_true rfl) rfl ?_
  refine R_mono (c8 gl ga2) (fun v9 M9 hr9 => ?_)
  obtain ⟨rfl, hm9⟩ := hr9
  rw [col_put] at hm9
  rw [hm9]
  dsimp only [Option.toList, List.cons_append, List.nil_append]
  refine R_iconst (q := 13) (v := nI 0) rfl rfl (by decide) ?_
  refine R_istore_n (q := 14) rfl rfl (Nat.le_of_ble_eq_true rfl) rfl ?_
  dsimp only [List.set]
  exact c45_loop h 16 0 (ifl f l 16, (0, p)) _ _ _ rfl (Nat.zero_le _)
end P32
