/-! ===== TapeWriter: kinds, groups, the draft; the pieces at 49 ===== -/
def kd (n : Nat) (p : Nat → Int32) (i : Nat) : Int32 := itv n p (nI i) (nI 2) * nI 17 + itv n p (nI i) (nI 3)
def kal (n : Nat) (p : Nat → Int32) (kind : Int32) : Nat → Nat → Int32 → Int32
  | 0, _, nx => nx
  | j + 1, i, nx => kal n p kind j (i + 1) (if kind < kd n p i ∧ (nx = 0 ∨ kd n p i < nx) then kd n p i else nx)
def kaf (n : Nat) (p : Nat → Int32) (kind : Int32) : Int32 := kal n p kind n 0 (nI 0)
section P34
variable {S : mm_S} {d : Nat} {M : mm_M} {xs ys p : Nat → Int32} {m n : Nat} {s : ES} {a : Nat}
set_option maxRecDepth 8000 in
theorem c109 {i : Nat} (h : IT M a n p) : mm_R S (d + 1) 109 0 (mm_en 109 [.ref a, .int (nI i)]) [] M (fun v M' => v = some (.int (kd n p i)) ∧ M' = M) := by
  show mm_R S (d + 1) 109 0 [some (.ref a), some (.int (nI i))] [] M _
  refine R_aload_n (q := 1) rfl rfl rfl ?_
  refine R_iload_n (q := 2) rfl rfl rfl ?_
  refine R_iconst (q := 3) (v := nI 2) rfl rfl (by decide) ?_
  refine R_callv2 (q := 6) rfl rfl rfl rfl h.1 (Nat.le_of_ble_eq_true rfl) rfl ?_
  refine R_mono (c52 h) (fun v3 M3 hr3 => ?_)
  obtain ⟨rfl, hm3⟩ := hr3
  rw [hm3]
  dsimp only [Option.toList, List.cons_append, List.nil_append]
  refine R_bipush (q := 8) (v := nI 17) rfl rfl (by decide) ?_
  refine R_imul (q := 9) rfl rfl ?_
  refine R_aload_n (q := 10) rfl rfl rfl ?_
  refine R_iload_n (q := 11) rfl rfl rfl ?_
  refine R_iconst (q := 12) (v := nI 3) rfl rfl (by decide) ?_
  refine R_callv2 (q := 15) rfl rfl rfl rfl h.1 (Nat.le_of_ble_eq_true rfl) rfl ?_
  refine R_mono (c52 h) (fun v12 M12 hr12 => ?_)
  obtain ⟨rfl, hm12⟩ := hr12
  rw [hm12]
  dsimp only [Option.toList, List.cons_append, List.nil_append]
  refine R_iadd (q := 16) rfl rfl ?_
  refine R_ireturn rfl rfl ?_
  exact ⟨rfl, rfl⟩
theorem i_nlt {x y : Int32} (h : ¬ x ≤ y) : y < x := by rw [i_le] at h; rw [i_lt]; omega
theorem i_nle {x y : Int32} (h : ¬ x < y) : y ≤ x := by rw [i_lt] at h; rw [i_le]; omega
theorem i_lnl {x y : Int32} (h : x ≤ y) (g : y < x) : False := by rw [i_le] at h; rw [i_lt] at g; omega
set_option maxRecDepth 8000 in
theorem c110 {kind : Int32} (h : IT M a n p) : mm_R S (d + 2) 110 0 (mm_en 110 [.ref a, .int kind]) [] M (fun v M' => v = some (.int (kaf n p kind)) ∧ M' = M) := by
  have hn := h.2.2
  have hl : ∀ (j i : Nat) (nx : Int32) (t : Option Value), i + j = n → mm_R S (d + 2) 110 4 [some (.ref a), some (.int kind), some (.int nx), some (.int (nI i)), t] [] M (fun v M' => v = some (.int (kal n p kind j i nx)) ∧ M' = M) := by
    intro j
    induction j with
    | zero =>
      intro i nx t hi
      refine R_iload_n (q := 5) rfl rfl rfl ?_
      refine R_aload_n (q := 6) rfl rfl rfl ?_
      refine R_callv0 (q := 9) rfl rfl rfl rfl h.1 (Nat.le_of_ble_eq_true rfl) rfl ?_
      refine R_mono (c50 h) (fun v6 M6 hr6 => ?_)
      obtain ⟨rfl, hm6⟩ := hr6
      rw [hm6]
      dsimp only [Option.toList, List.cons_append, List.nil_append]
      refine R_icmp_ge (q := 12) (t := 44) rfl rfl rfl (fun h9 => ?_) (fun h9 => absurd (nI_le (by omega) (by omega)) h9)
      refine R_iload_n (q := 45) rfl rfl rfl ?_
      refine R_ireturn rfl rfl ?_
      exact ⟨rfl, rfl⟩
    | succ j ih =>
      intro i nx t hi
      have hst : kal n p kind (j + 1) i nx = kal n p kind j (i + 1) (if kind < kd n p i ∧ (nx = 0 ∨ kd n p i < nx) then kd n p i else nx) := rfl
      rw [hst]
      refine R_iload_n (q := 5) rfl rfl rfl ?_
      refine R_aload_n (q := 6) rfl rfl rfl ?_
      refine R_callv0 (q := 9) rfl rfl rfl rfl h.1 (Nat.le_of_ble_eq_true rfl) rfl ?_
      refine R_mono (c50 h) (fun v6 M6 hr6 => ?_)
      obtain ⟨rfl, hm6⟩ := hr6
      rw [hm6]
      dsimp only [Option.toList, List.cons_append, List.nil_append]
      refine R_icmp_ge (q := 12) (t := 44) rfl rfl rfl (fun h9 => absurd h9 (nI_ge (by omega) (by omega))) (fun h9 => ?_)
      refine R_aload_n (q := 13) rfl rfl rfl ?_
      refine R_iload_n (q := 14) rfl rfl rfl ?_
      refine R_calls2 (q := 17) rfl rfl rfl rfl (Nat.le_of_ble_eq_true rfl) rfl ?_
      refine R_mono (c109 h) (fun v14 M14 hr14 => ?_)
      obtain ⟨rfl, hm14⟩ := hr14
      rw [hm14]
      dsimp only [Option.toList, List.cons_append, List.nil_append]
      refine R_istore (q := 19) rfl rfl (Nat.le_of_ble_eq_true rfl) rfl ?_
      dsimp only [List.set]
      refine R_iload (q := 21) rfl rfl rfl ?_
      refine R_iload_n (q := 22) rfl rfl rfl ?_
      refine R_icmp_le (q := 25) (t := 38) rfl rfl rfl (fun h22 => ?_) (fun h22 => ?_)
      · refine R_iinc (q := 41) rfl rfl rfl (nI_i1 i) rfl ?_
        dsimp only [List.set]
        refine R_goto (t := 4) rfl rfl ?_
        first
          | (rw [if_pos (And.intro (i_nlt h22) (Or.inl h26))]; exact ih (i + 1) _ _ (by omega))
          | (rw [if_pos (And.intro (i_nlt h22) (Or.inr (i_nlt h32)))]; exact ih (i + 1) _ _ (by omega))
          | (rw [if_neg (fun q => i_lnl h22 q.1)]; exact ih (i + 1) _ _ (by omega))
          | (rw [if_neg (fun q => q.2.elim h26 (i_lnl h32))]; exact ih (i + 1) _ _ (by omega))
      · refine R_iload_n (q := 26) rfl rfl rfl ?_
        refine R_if_eq (q := 29) (t := 35) rfl rfl rfl (fun h26 => ?_) (fun h26 => ?_)
        · refine R_iload (q := 37) rfl rfl rfl ?_
          refine R_istore_n (q := 38) rfl rfl (Nat.le_of_ble_eq_true rfl) rfl ?_
          dsimp only [List.set]
          refine R_iinc (q := 41) rfl rfl rfl (nI_i1 i) rfl ?_
          dsimp only [List.set]
          refine R_goto (t := 4) rfl rfl ?_
          first
            | (rw [if_pos (And.intro (i_nlt h22) (Or.inl h26))]; exact ih (i + 1) _ _ (by omega))
            | (rw [if_pos (And.intro (i_nlt h22) (Or.inr (i_nlt h32)))]; exact ih (i + 1) _ _ (by omega))
            | (rw [if_neg (fun q => i_lnl h22 q.1)]; exact ih (i + 1) _ _ (by omega))
            | (rw [if_neg (fun q => q.2.elim h26 (i_lnl h32))]; exact ih (i + 1) _ _ (by omega))
        · refine R_iload (q := 31) rfl rfl rfl ?_
          refine R_iload_n (q := 32) rfl rfl rfl ?_
          refine R_icmp_ge (q := 35) (t := 38) rfl rfl rfl (fun h32 => ?_) (fun h32 => ?_)
          · refine R_iinc (q := 41) rfl rfl rfl (nI_i1 i) rfl ?_
            dsimp only [List.set]
            refine R_goto (t := 4) rfl rfl ?_
            first
              | (rw [if_pos (And.intro (i_nlt h22) (Or.inl h26))]; exact ih (i + 1) _ _ (by omega))
              | (rw [if_pos (And.intro (i_nlt h22) (Or.inr (i_nlt h32)))]; exact ih (i + 1) _ _ (by omega))
              | (rw [if_neg (fun q => i_lnl h22 q.1)]; exact ih (i + 1) _ _ (by omega))
              | (rw [if_neg (fun q => q.2.elim h26 (i_lnl h32))]; exact ih (i + 1) _ _ (by omega))
          · refine R_iload (q := 37) rfl rfl rfl ?_
            refine R_istore_n (q := 38) rfl rfl (Nat.le_of_ble_eq_true rfl) rfl ?_
            dsimp only [List.set]
            refine R_iinc (q := 41) rfl rfl rfl (nI_i1 i) rfl ?_
            dsimp only [List.set]
            refine R_goto (t := 4) rfl rfl ?_
            first
              | (rw [if_pos (And.intro (i_nlt h22) (Or.inl h26))]; exact ih (i + 1) _ _ (by omega))
              | (rw [if_pos (And.intro (i_nlt h22) (Or.inr (i_nlt h32)))]; exact ih (i + 1) _ _ (by omega))
              | (rw [if_neg (fun q => i_lnl h22 q.1)]; exact ih (i + 1) _ _ (by omega))
              | (rw [if_neg (fun q => q.2.elim h26 (i_lnl h32))]; exact ih (i + 1) _ _ (by omega))
  show mm_R S (d + 2) 110 0 [some (.ref a), some (.int kind), none, none, none] [] M _
  refine R_iconst (q := 1) (v := nI 0) rfl rfl (by decide) ?_
  refine R_istore_n (q := 2) rfl rfl (Nat.le_of_ble_eq_true rfl) rfl ?_
  dsimp only [List.set]
  refine R_iconst (q := 3) (v := nI 0) rfl rfl (by decide) ?_
  refine R_istore_n (q := 4) rfl rfl (Nat.le_of_ble_eq_true rfl) rfl ?_
  dsimp only [List.set]
  exact hl n 0 (nI 0) none (by omega)
/-- members so far, and where they lie -/
abbrev GS : Type := Nat × (Nat → Int32) × (Nat → Int32)
def gat (n : Nat) (p : Nat → Int32) (kind : Int32) : Nat → Nat → GS → GS
  | 0, _, g => g
  | j + 1, i, g => gat n p kind j (i + 1) (if kd n p i = kind then (g.1 + 1, upd g.2.1 g.1 (itv n p (nI i) (nI 0)), upd g.2.2 g.1 (itv n p (nI i) (nI 1))) else g)
theorem gat_le {kind : Int32} : ∀ (j i : Nat) (g : GS), (gat n p kind j i g).1 ≤ g.1 + j := by
  intro j
  induction j with
  | zero => intro i g; exact Nat.le_refl _
  | succ j ih =>
    intro i g
    have hst : gat n p kind (j + 1) i g = gat n p kind j (i + 1) (if kd n p i = kind then (g.1 + 1, upd g.2.1 g.1 (itv n p (nI i) (nI 0)), upd g.2.2 g.1 (itv n p (nI i) (nI 1))) else g) := rfl
    rw [hst]
    by_cases hq : kd n p i = kind
    · rw [if_pos hq]
      have h1 : (gat n p kind j (i + 1) (g.1 + 1, upd g.2.1 g.1 (itv n p (nI i) (nI 0)), upd g.2.2 g.1 (itv n p (nI i) (nI 1)))).1 ≤ (g.1 + 1) + j := ih (i + 1) _
      omega
    · rw [if_neg hq]
      have := ih (i + 1) g
      omega
theorem wt_IT49 (h : IT M 49 n p) : IT (wtm M s xs ys m) 49 n p := wt_IT h (by decide)
set_option maxRecDepth 8000 in
theorem c112 {kind : Int32} (h : IT M 49 n p) : mm_R S (d + 2) 112 0 (mm_en 112 [.ref 55, .ref 49, .int kind]) [] (wtm M s xs ys m) (fun v M' => v = none ∧ ∀ g, g = gat n p kind n 0 (0, xs, ys) → M' = wtm M s g.2.1 g.2.2 g.1) := by
  have hn := h.2.2
  have hl : ∀ (j i : Nat) (g : GS), i + j = n → g.1 ≤ i → mm_R S (d + 2) 112 7 [some (.ref 55), some (.ref 49), some (.int kind), some (.int (nI i))] [] (wtm M s g.2.1 g.2.2 g.1) (fun v M' => v = none ∧ ∀ u, u = gat n p kind j i g → M' = wtm M s u.2.1 u.2.2 u.1) := by
    intro j
    induction j with
    | zero =>
      intro i g hi hg
      refine R_iload_n (q := 8) rfl rfl rfl ?_
      refine R_aload_n (q := 9) rfl rfl rfl ?_
      refine R_callv0 (q := 12) rfl rfl rfl rfl (wt_IT49 h).1 (Nat.le_of_ble_eq_true rfl) rfl ?_
      refine R_mono (c50 (wt_IT49 h)) (fun v9 M9 hr9 => ?_)
      obtain ⟨rfl, hm9⟩ := hr9
      rw [hm9]
      dsimp only [Option.toList, List.cons_append, List.nil_append]
      refine R_icmp_ge (q := 15) (t := 70) rfl rfl rfl (fun h12 => ?_) (fun h12 => absurd (nI_le (by omega) (by omega)) h12)
      refine R_return rfl rfl ?_
      exact ⟨rfl, fun u hu => by rw [hu]; rfl⟩
    | succ j ih =>
      intro i g hi hg
      have hst : gat n p kind (j + 1) i g = gat n p kind j (i + 1) (if kd n p i = kind then (g.1 + 1, upd g.2.1 g.1 (itv n p (nI i) (nI 0)), upd g.2.2 g.1 (itv n p (nI i) (nI 1))) else g) := rfl
      rw [hst]
      refine R_iload_n (q := 8) rfl rfl rfl ?_
      refine R_aload_n (q := 9) rfl rfl rfl ?_
      refine R_callv0 (q := 12) rfl rfl rfl rfl (wt_IT49 h).1 (Nat.le_of_ble_eq_true rfl) rfl ?_
      refine R_mono (c50 (wt_IT49 h)) (fun v9 M9 hr9 => ?_)
      obtain ⟨rfl, hm9⟩ := hr9
      rw [hm9]
      dsimp only [Option.toList, List.cons_append, List.nil_append]
      refine R_icmp_ge (q := 15) (t := 70) rfl rfl rfl (fun h12 => absurd h12 (nI_ge (by omega) (by omega))) (fun h12 => ?_)
      refine R_aload_n (q := 16) rfl rfl rfl ?_
      refine R_iload_n (q := 17) rfl rfl rfl ?_
      refine R_calls2 (q := 20) rfl rfl rfl rfl (Nat.le_of_ble_eq_true rfl) rfl ?_
      refine R_mono (c109 (wt_IT49 h)) (fun v17 M17 hr17 => ?_)
      obtain ⟨rfl, hm17⟩ := hr17
      rw [hm17]
      dsimp only [Option.toList, List.cons_append, List.nil_append]
      refine R_iload_n (q := 21) rfl rfl rfl ?_
      refine R_icmp_ne (q := 24) (t := 64) rfl rfl rfl (fun h21 => ?_) (fun h21 => ?_)
      · refine R_iinc (q := 67) rfl rfl rfl (nI_i1 i) rfl ?_
        dsimp only [List.set]
        refine R_goto (t := 7) rfl rfl ?_
        first
          | (rw [if_pos h21]; exact ih (i + 1) (g.1 + 1, upd g.2.1 g.1 (itv n p (nI i) (nI 0)), upd g.2.2 g.1 (itv n p (nI i) (nI 1))) (by omega) (by show g.1 + 1 ≤ i + 1; omega))
          | (rw [if_neg h21]; exact ih (i + 1) g (by omega) (by omega))
      · refine R_aload_n (q := 25) rfl rfl rfl ?_
        refine R_getf (q := 28) rfl rfl rfl wt_55 rfl ?_
        refine R_aload_n (q := 29) rfl rfl rfl ?_
        refine R_getf (q := 32) rfl rfl rfl wt_55 rfl ?_
        refine R_aload_n (q := 33) rfl rfl rfl ?_
        refine R_iload_n (q := 34) rfl rfl rfl ?_
        refine R_iconst (q := 35) (v := nI 0) rfl rfl (by decide) ?_
        refine R_callv2 (q := 38) rfl rfl rfl rfl (wt_IT49 h).1 (Nat.le_of_ble_eq_true rfl) rfl ?_
        refine R_mono (c52 (wt_IT49 h)) (fun v35 M35 hr35 => ?_)
        obtain ⟨rfl, hm35⟩ := hr35
        rw [hm35]
        dsimp only [Option.toList, List.cons_append, List.nil_append]
        refine R_iastore (q := 39) rfl rfl wt_58 (by first | assumption | exact in_nI (by omega) (by decide)) ?_
        rw [cl_nI (by omega), wt_p58]
        refine R_aload_n (q := 40) rfl rfl rfl ?_
        refine R_getf (q := 43) rfl rfl rfl wt_55 rfl ?_
        refine R_aload_n (q := 44) rfl rfl rfl ?_
        refine R_getf (q := 47) rfl rfl rfl wt_55 rfl ?_
        refine R_aload_n (q := 48) rfl rfl rfl ?_
        refine R_iload_n (q := 49) rfl rfl rfl ?_
        refine R_iconst (q := 50) (v := nI 1) rfl rfl (by decide) ?_
        refine R_callv2 (q := 53) rfl rfl rfl rfl (wt_IT49 h).1 (Nat.le_of_ble_eq_true rfl) rfl ?_
        refine R_mono (c52 (wt_IT49 h)) (fun v50 M50 hr50 => ?_)
        obtain ⟨rfl, hm50⟩ := hr50
        rw [hm50]
        dsimp only [Option.toList, List.cons_append, List.nil_append]
        refine R_iastore (q := 54) rfl rfl wt_59 (by first | assumption | exact in_nI (by omega) (by decide)) ?_
        rw [cl_nI (by omega), wt_p59]
        refine R_aload_n (q := 55) rfl rfl rfl ?_
        first | refine R_dupa (q := 56) rfl rfl ?_ | refine R_dupi (q := 56) rfl rfl ?_
        refine R_getf (q := 59) rfl rfl rfl wt_55 rfl ?_
        refine R_iconst (q := 60) (v := nI 1) rfl rfl (by decide) ?_
        refine R_iadd (q := 61) rfl rfl ?_
        rw [nI_add]
        refine R_putf (q := 64) rfl rfl rfl wt_55 (Nat.le_of_ble_eq_true rfl) rfl (fun hf => absurd hf (by decide)) rfl ?_
        dsimp only [List.set]
        rw [wt_p55]
        refine R_iinc (q := 67) rfl rfl rfl (nI_i1 i) rfl ?_
        dsimp only [List.set]
        refine R_goto (t := 7) rfl rfl ?_
        first
          | (rw [if_pos h21]; exact ih (i + 1) (g.1 + 1, upd g.2.1 g.1 (itv n p (nI i) (nI 0)), upd g.2.2 g.1 (itv n p (nI i) (nI 1))) (by omega) (by show g.1 + 1 ≤ i + 1; omega))
          | (rw [if_neg h21]; exact ih (i + 1) g (by omega) (by omega))
  show mm_R S (d + 2) 112 0 [some (.ref 55), some (.ref 49), some (.int kind), none] [] (wtm M s xs ys m) _
  refine R_aload_n (q := 1) rfl rfl rfl ?_
  refine R_iconst (q := 2) (v := nI 0) rfl rfl (by decide) ?_
  refine R_putf (q := 5) rfl rfl rfl wt_55 (Nat.le_of_ble_eq_true rfl) rfl (fun hf => absurd hf (by decide)) rfl ?_
  dsimp only [List.set]
  rw [wt_p55]
  refine R_iconst (q := 6) (v := nI 0) rfl rfl (by decide) ?_
  refine R_istore_n (q := 7) rfl rfl (Nat.le_of_ble_eq_true rfl) rfl ?_
  dsimp only [List.set]
  exact hl n 0 (0, xs, ys) (by omega) (Nat.le_refl _)
def wgl (xs ys : Nat → Int32) (m : Nat) : Nat → Nat → Nat × ES → Nat × ES
  | 0, _, u => u
  | j + 1, k, u => wgl xs ys m j (k + 1) (if k = u.1 then (lef xs ys k (m - (k + 1)) (k + 1), wln xs ys k (lef xs ys k (m - (k + 1)) (k + 1) - k) u.2) else u)
def wghd (kind : Int32) (l : Nat) (s : ES) : ES := em (em (em s (kind / nI 17)) (kind - kind / nI 17 * nI 17)) (nI l)
def wgr (n : Nat) (p : Nat → Int32) (kind : Int32) (u : ES × GS) : ES × GS :=
  ((wgl (gat n p kind n 0 (0, u.2.2)).2.1 (gat n p kind n 0 (0, u.2.2)).2.2 (gat n p kind n 0 (0, u.2.2)).1 (gat n p kind n 0 (0, u.2.2)).1 0 (0, wghd kind (cln (gat n p kind n 0 (0, u.2.2)).2.1 (gat n p kind n 0 (0, u.2.2)).2.2 (gat n p kind n 0 (0, u.2.2)).1 (gat n p kind n 0 (0, u.2.2)).1 0 (0, 0)).2 u.1)).2, gat n p kind n 0 (0, u.2.2))
theorem wgl_le : ∀ (j k : Nat) (u : Nat × ES), u.2.1.1 ≤ 400 → (wgl xs ys m j k u).2.1.1 ≤ 400 := by
  intro j
  induction j with
  | zero => intro k u h; exact h
  | succ j ih =>
    intro k u h
    have hst : wgl xs ys m (j + 1) k u = wgl xs ys m j (k + 1) (if k = u.1 then (lef xs ys k (m - (k + 1)) (k + 1), wln xs ys k (lef xs ys k (m - (k + 1)) (k + 1) - k) u.2) else u) := rfl
    rw [hst]
    refine ih _ _ ?_
    split
    · exact wln_le h
    · exact h
theorem wghd_le {kind : Int32} {l : Nat} (h : s.1.1 ≤ 400) : (wghd kind l s).1.1 ≤ 400 := em_le (em_le (em_le h))
set_option maxRecDepth 8000 in
theorem c111_loop (hm : m ≤ 256) : ∀ (j k : Nat) (u : Nat × ES) (kv : Option Value), k + j = m → u.1 ≤ 600 → u.2.1.1 ≤ 400 → mm_R S (d + 3) 111 35 [some (.ref 55), some (.ref 49), kv, some (.int (nI u.1)), some (.int (nI k))] [] (wtm M u.2 xs ys m) (fun v M' => v = none ∧ ∀ w, w = wgl xs ys m j k u → M' = wtm M w.2 xs ys m) := by
  intro j
  induction j with
  | zero =>
    intro k u kv hk hu hs
    refine R_iload (q := 37) rfl rfl rfl ?_
    refine R_aload_n (q := 38) rfl rfl rfl ?_
    refine R_getf (q := 41) rfl rfl rfl wt_55 rfl ?_
    refine R_icmp_ge (q := 44) (t := 73) rfl rfl rfl (fun h41 => ?_) (fun h41 => absurd (nI_le (by omega) (by omega)) h41)
    refine R_return rfl rfl ?_
    exact ⟨rfl, fun u hu => by rw [hu]; rfl⟩
  | succ j ih =>
    intro k u kv hk hu hs
    have hle := lef_le (xs := xs) (ys := ys) (f := k) (m - (k + 1)) (k + 1)
    have hst : wgl xs ys m (j + 1) k u = wgl xs ys m j (k + 1) (if k = u.1 then (lef xs ys k (m - (k + 1)) (k + 1), wln xs ys k (lef xs ys k (m - (k + 1)) (k + 1) - k) u.2) else u) := rfl
    rw [hst]
    refine R_iload (q := 37) rfl rfl rfl ?_
    refine R_aload_n (q := 38) rfl rfl rfl ?_
    refine R_getf (q := 41) rfl rfl rfl wt_55 rfl ?_
    refine R_icmp_ge (q := 44) (t := 73) rfl rfl rfl (fun h41 => absurd h41 (nI_ge (by omega) (by omega))) (fun h41 => ?_)
    refine R_iload (q := 46) rfl rfl rfl ?_
    refine R_iload_n (q := 47) rfl rfl rfl ?_
    refine R_icmp_ne (q := 50) (t := 67) rfl rfl rfl (fun h47 => ?_) (fun h47 => ?_)
    · refine R_iinc (q := 70) rfl rfl rfl (nI_i1 k) rfl ?_
      dsimp only [List.set]
      refine R_goto (t := 35) rfl rfl ?_
      first
        | (rw [if_pos (nI_inj (by omega) (by omega) h47)]
           exact ih (k + 1) (lef xs ys k (m - (k + 1)) (k + 1), wln xs ys k (lef xs ys k (m - (k + 1)) (k + 1) - k) u.2) kv (by omega) (by show lef xs ys k (m - (k + 1)) (k + 1) ≤ 600; omega) (wln_le hs))
        | (rw [if_neg (fun q => h47 (congrArg nI q))]
           exact ih (k + 1) u kv (by omega) hu hs)
    · refine R_aload_n (q := 51) rfl rfl rfl ?_
      refine R_iload (q := 53) rfl rfl rfl ?_
      refine R_callv1 (q := 56) rfl rfl rfl rfl wt_55 (Nat.le_of_ble_eq_true rfl) rfl ?_
      refine R_mono (c114 (by omega) hm) (fun v53 M53 hr53 => ?_)
      obtain ⟨rfl, hm53⟩ := hr53
      rw [hm53]
      dsimp only [Option.toList, List.cons_append, List.nil_append]
      refine R_istore_n (q := 57) rfl rfl (Nat.le_of_ble_eq_true rfl) rfl ?_
      dsimp only [List.set]
      refine R_aload_n (q := 58) rfl rfl rfl ?_
      refine R_iload (q := 60) rfl rfl rfl ?_
      refine R_iload_n (q := 61) rfl rfl rfl ?_
      refine R_iload (q := 63) rfl rfl rfl ?_
      refine R_isub (q := 64) rfl rfl ?_
      rw [pk_sub (by omega)]
      refine R_callv2 (q := 67) rfl rfl rfl rfl wt_55 (Nat.le_of_ble_eq_true rfl) rfl ?_
      refine R_mono (c116 hs (by omega) (by omega) (by omega)) (fun v64 M64 hr64 => ?_)
      obtain ⟨rfl, hm64⟩ := hr64
      rw [hm64]
      dsimp only [Option.toList, List.cons_append, List.nil_append]
      refine R_iinc (q := 70) rfl rfl rfl (nI_i1 k) rfl ?_
      dsimp only [List.set]
      refine R_goto (t := 35) rfl rfl ?_
      first
        | (rw [if_pos (nI_inj (by omega) (by omega) h47)]
           exact ih (k + 1) (lef xs ys k (m - (k + 1)) (k + 1), wln xs ys k (lef xs ys k (m - (k + 1)) (k + 1) - k) u.2) kv (by omega) (by show lef xs ys k (m - (k + 1)) (k + 1) ≤ 600; omega) (wln_le hs))
        | (rw [if_neg (fun q => h47 (congrArg nI q))]
           exact ih (k + 1) u kv (by omega) hu hs)
set_option maxRecDepth 8000 in
theorem c111 {kind : Int32} {u : ES × GS} (h : IT M 49 n p) (hs : u.1.1.1 ≤ 400) : mm_R S (d + 3) 111 0 (mm_en 111 [.ref 55, .ref 49, .int kind]) [] (wtm M u.1 u.2.2.1 u.2.2.2 u.2.1) (fun v M' => v = none ∧ ∀ w, w = wgr n p kind u → M' = wtm M w.1 w.2.2.1 w.2.2.2 w.2.1) := by
  have hn := h.2.2
  unfold wgr
  have hg := gat_le (n := n) (p := p) (kind := kind) n 0 (0, u.2.2)
  show mm_R S (d + 3) 111 0 [some (.ref 55), some (.ref 49), some (.int kind), none, none] [] (wtm M u.1 u.2.2.1 u.2.2.2 u.2.1) _
  refine R_aload_n (q := 1) rfl rfl rfl ?_
  refine R_aload_n (q := 2) rfl rfl rfl ?_
  refine R_iload_n (q := 3) rfl rfl rfl ?_
  refine R_callv2 (q := 6) rfl rfl rfl rfl wt_55 (Nat.le_of_ble_eq_true rfl) rfl ?_
  refine R_mono (c112 h) (fun v3 M3 hr3 => ?_)
  obtain ⟨rfl, hm3⟩ := hr3
  rw [hm3 _ rfl]
  dsimp only [Option.toList, List.cons_append, List.nil_append]
  revert hg
  generalize gat n p kind n 0 (0, u.2.2) = g
  intro hg
  have hg1 : g.1 ≤ 256 := Nat.le_trans hg (by show 0 + n ≤ 256; omega)
  clear hg
  refine R_aload_n (q := 7) rfl rfl rfl ?_
  refine R_iload_n (q := 8) rfl rfl rfl ?_
  refine R_bipush (q := 10) (v := nI 17) rfl rfl (by decide) ?_
  refine R_idiv (q := 11) rfl rfl (by decide) ?_
  refine R_callv1 (q := 14) rfl rfl rfl rfl wt_55 (Nat.le_of_ble_eq_true rfl) rfl ?_
  refine R_mono (c117 hs) (fun v11 M11 hr11 => ?_)
  obtain ⟨rfl, hm11⟩ := hr11
  rw [hm11]
  dsimp only [Option.toList, List.cons_append, List.nil_append]
  refine R_aload_n (q := 15) rfl rfl rfl ?_
  refine R_iload_n (q := 16) rfl rfl rfl ?_
  refine R_bipush (q := 18) (v := nI 17) rfl rfl (by decide) ?_
  refine R_irem (q := 19) rfl rfl (by decide) ?_
  refine R_callv1 (q := 22) rfl rfl rfl rfl wt_55 (Nat.le_of_ble_eq_true rfl) rfl ?_
  refine R_mono (c117 (em_le hs)) (fun v19 M19 hr19 => ?_)
  obtain ⟨rfl, hm19⟩ := hr19
  rw [hm19]
  dsimp only [Option.toList, List.cons_append, List.nil_append]
  refine R_aload_n (q := 23) rfl rfl rfl ?_
  refine R_aload_n (q := 24) rfl rfl rfl ?_
  refine R_callv0 (q := 27) rfl rfl rfl rfl wt_55 (Nat.le_of_ble_eq_true rfl) rfl ?_
  refine R_mono (c113 hg1) (fun v24 M24 hr24 => ?_)
  obtain ⟨rfl, hm24⟩ := hr24
  rw [hm24]
  dsimp only [Option.toList, List.cons_append, List.nil_append]
  refine R_callv1 (q := 30) rfl rfl rfl rfl wt_55 (Nat.le_of_ble_eq_true rfl) rfl ?_
  refine R_mono (c117 (em_le (em_le hs))) (fun v27 M27 hr27 => ?_)
  obtain ⟨rfl, hm27⟩ := hr27
  rw [hm27]
  dsimp only [Option.toList, List.cons_append, List.nil_append]
  refine R_iconst (q := 31) (v := nI 0) rfl rfl (by decide) ?_
  refine R_istore_n (q := 32) rfl rfl (Nat.le_of_ble_eq_true rfl) rfl ?_
  dsimp only [List.set]
  refine R_iconst (q := 33) (v := nI 0) rfl rfl (by decide) ?_
  refine R_istore (q := 35) rfl rfl (Nat.le_of_ble_eq_true rfl) rfl ?_
  dsimp only [List.set]
  exact R_mono (c111_loop hg1 g.1 0 (0, wghd kind (cln g.2.1 g.2.2 g.1 g.1 0 (0, 0)).2 u.1) _ (by omega) (Nat.zero_le _) (wghd_le hs)) (fun v M1 hr => ⟨hr.1, fun w hw => by rw [hw]; exact hr.2 _ rfl⟩)
def drl (n : Nat) (p : Nat → Int32) : Nat → Int32 × ES × GS → Int32 × ES × GS
  | 0, u => u
  | j + 1, u => if 0 < u.1 then drl n p j (kaf n p u.1, wgr n p u.1 u.2) else u
def drf (n : Nat) (p : Nat → Int32) (o : Nat → Int32) (g : GS) : ES × GS := (em (drl n p 256 (kaf n p (nI 0), ((0, o), true), g)).2.1 (nI 0), (drl n p 256 (kaf n p (nI 0), ((0, o), true), g)).2.2)
theorem wgr_le {kind : Int32} {u : ES × GS} (h : u.1.1.1 ≤ 400) : (wgr n p kind u).1.1.1 ≤ 400 := wgl_le _ _ _ (wghd_le h)
theorem drl_le : ∀ (j : Nat) (u : Int32 × ES × GS), u.2.1.1.1 ≤ 400 → (drl n p j u).2.1.1.1 ≤ 400 := by
  intro j
  induction j with
  | zero => intro u h; exact h
  | succ j ih =>
    intro u h
    unfold drl
    split
    · exact ih _ (wgr_le h)
    · exact h
set_option maxRecDepth 8000 in
theorem c107 : mm_R S d 107 0 (mm_en 107 [.ref 55]) [] (wtm M s xs ys m) (fun v M' => v = some (.ref 56) ∧ M' = wtm M s xs ys m) := by
  show mm_R S d 107 0 [some (.ref 55)] [] (wtm M s xs ys m) _
  refine R_aload_n (q := 1) rfl rfl rfl ?_
  refine R_getf (q := 4) rfl rfl rfl wt_55 rfl ?_
  refine R_areturn rfl rfl ?_
  exact ⟨rfl, rfl⟩
theorem wt_wipe : mm_put (wtm M s xs ys m) 56 (.inr (8, [.ref (56 + 1), .int (nI 0)])) = wtm M ((0, s.1.2), s.2) xs ys m := by
  unfold mm_put mm_u wtm
  congr 1
  funext k
  by_cases h : k = 56
  · subst h; rfl
  · simp [h]
theorem wt_p55b {m' : Nat} : mm_put (wtm M s xs ys m) 55 (.inr (10, [.ref 56, .ref 58, .ref 59, .int (nI m'), .int (nI 1)])) = wtm M (s.1, true) xs ys m' := wt_p55 (b' := true)
set_option maxRecDepth 8000 in
theorem c108 {g : GS} (h : IT M 49 n p) (hs : s.1.1 ≤ 400) : mm_R S (d + 4) 108 0 (mm_en 108 [.ref 55, .ref 49]) [] (wtm M s g.2.1 g.2.2 g.1) (fun v M' => ∀ w, w = drf n p s.1.2 g → v = some (.int (zb w.1.2)) ∧ M' = wtm M w.1 w.2.2.1 w.2.2.2 w.2.1) := by
  have hend : ∀ (u : Int32 × ES × GS) (L1 : List (Option Value)), L1[0]? = some (some (.ref 55)) → u.2.1.1.1 ≤ 400 → mm_R S (d + 4) 108 49 L1 [] (wtm M u.2.1 u.2.2.2.1 u.2.2.2.2 u.2.2.1) (fun v M' => v = some (.int (zb (em u.2.1 (nI 0)).2)) ∧ M' = wtm M (em u.2.1 (nI 0)) u.2.2.2.1 u.2.2.2.2 u.2.2.1) := by
    intro u L1 hL hu
    refine R_aload_n (q := 50) rfl rfl hL ?_
    refine R_iconst (q := 51) (v := nI 0) rfl rfl (by decide) ?_
    refine R_callv1 (q := 54) rfl rfl rfl rfl wt_55 (Nat.le_of_ble_eq_true rfl) rfl ?_
    refine R_mono (c117 hu) (fun v51 M51 hr51 => ?_)
    obtain ⟨rfl, hm51⟩ := hr51
    rw [hm51]
    dsimp only [Option.toList, List.cons_append, List.nil_append]
    refine R_aload_n (q := 55) rfl rfl hL ?_
    refine R_getf (q := 58) rfl rfl rfl wt_55 rfl ?_
    refine R_zreturn rfl rfl (zb_01 _) ?_
    exact ⟨rfl, rfl⟩
  have hl : ∀ (j i : Nat) (u : Int32 × ES × GS), i + j = 256 → u.2.1.1.1 ≤ 400 → mm_R S (d + 4) 108 20 [some (.ref 55), some (.ref 49), some (.int u.1), some (.int (nI i))] [] (wtm M u.2.1 u.2.2.2.1 u.2.2.2.2 u.2.2.1) (fun v M' => ∀ w, w = drl n p j u → v = some (.int (zb (em w.2.1 (nI 0)).2)) ∧ M' = wtm M (em w.2.1 (nI 0)) w.2.2.2.1 w.2.2.2.2 w.2.2.1) := by
    intro j
    induction j with
    | zero =>
      intro i u hi hu
      refine R_iload_n (q := 21) rfl rfl rfl ?_
      refine R_sipush (q := 24) (v := nI 256) rfl rfl (by decide) ?_
      refine R_icmp_ge (q := 27) (t := 49) rfl rfl rfl (fun h24 => ?_) (fun h24 => absurd (nI_le (by omega) (by omega)) h24)
      exact R_mono (hend u _ rfl hu) (fun v M1 hr w hw => by rw [hw]; exact hr)
    | succ j ih =>
      intro i u hi hu
      have hst : drl n p (j + 1) u = (if 0 < u.1 then drl n p j (kaf n p u.1, wgr n p u.1 u.2) else u) := rfl
      rw [hst]
      refine R_iload_n (q := 21) rfl rfl rfl ?_
      refine R_sipush (q := 24) (v := nI 256) rfl rfl (by decide) ?_
      refine R_icmp_ge (q := 27) (t := 49) rfl rfl rfl (fun h24 => absurd h24 (nI_ge (by omega) (by omega))) (fun h24 => ?_)
      refine R_iload_n (q := 28) rfl rfl rfl ?_
      refine R_if_le (q := 31) (t := 49) rfl rfl rfl (fun h28 => ?_) (fun h28 => ?_)
      · rw [if_neg (fun q => i_lnl h28 q)]
        exact R_mono (hend u _ rfl hu) (fun v M1 hr w hw => by rw [hw]; exact hr)
      · refine R_aload_n (q := 32) rfl rfl rfl ?_
        refine R_aload_n (q := 33) rfl rfl rfl ?_
        refine R_iload_n (q := 34) rfl rfl rfl ?_
        refine R_callv2 (q := 37) rfl rfl rfl rfl wt_55 (Nat.le_of_ble_eq_true rfl) rfl ?_
        refine R_mono (c111 h hu) (fun v34 M34 hr34 => ?_)
        obtain ⟨rfl, hm34⟩ := hr34
        rw [hm34 _ rfl]
        dsimp only [Option.toList, List.cons_append, List.nil_append]
        refine R_aload_n (q := 38) rfl rfl rfl ?_
        refine R_iload_n (q := 39) rfl rfl rfl ?_
        refine R_calls2 (q := 42) rfl rfl rfl rfl (Nat.le_of_ble_eq_true rfl) rfl ?_
        refine R_mono (c110 (wt_IT49 h)) (fun v39 M39 hr39 => ?_)
        obtain ⟨rfl, hm39⟩ := hr39
        rw [hm39]
        dsimp only [Option.toList, List.cons_append, List.nil_append]
        refine R_istore_n (q := 43) rfl rfl (Nat.le_of_ble_eq_true rfl) rfl ?_
        dsimp only [List.set]
        refine R_iinc (q := 46) rfl rfl rfl (nI_i1 i) rfl ?_
        dsimp only [List.set]
        refine R_goto (t := 20) rfl rfl ?_
        rw [if_pos (i_nlt h28)]
        exact ih (i + 1) (kaf n p u.1, wgr n p u.1 u.2) (by omega) (wgr_le hu)
  unfold drf
  show mm_R S (d + 4) 108 0 [some (.ref 55), some (.ref 49), none, none] [] (wtm M s g.2.1 g.2.2 g.1) _
  refine R_aload_n (q := 1) rfl rfl rfl ?_
  refine R_getf (q := 4) rfl rfl rfl wt_55 rfl ?_
  refine R_callv0 (q := 7) rfl rfl rfl rfl wt_56 (Nat.le_of_ble_eq_true rfl) rfl ?_
  refine R_mono (c92 (wt_TP hs)) (fun v4 M4 hr4 => ?_)
  obtain ⟨rfl, hm4⟩ := hr4
  rw [hm4]
  rw [wt_wipe]
  dsimp only [Option.toList, List.cons_append, List.nil_append]
  refine R_aload_n (q := 8) rfl rfl rfl ?_
  refine R_iconst (q := 9) (v := nI 1) rfl rfl (by decide) ?_
  refine R_putf (q := 12) rfl rfl rfl wt_55 (Nat.le_of_ble_eq_true rfl) rfl (fun hf => absurd hf (by decide)) rfl ?_
  dsimp only [List.set]
  rw [wt_p55b]
  refine R_aload_n (q := 13) rfl rfl rfl ?_
  refine R_iconst (q := 14) (v := nI 0) rfl rfl (by decide) ?_
  refine R_calls2 (q := 17) rfl rfl rfl rfl (Nat.le_of_ble_eq_true rfl) rfl ?_
  refine R_mono (c110 (wt_IT49 h)) (fun v14 M14 hr14 => ?_)
  obtain ⟨rfl, hm14⟩ := hr14
  rw [hm14]
  dsimp only [Option.toList, List.cons_append, List.nil_append]
  refine R_istore_n (q := 18) rfl rfl (Nat.le_of_ble_eq_true rfl) rfl ?_
  dsimp only [List.set]
  refine R_iconst (q := 19) (v := nI 0) rfl rfl (by decide) ?_
  refine R_istore_n (q := 20) rfl rfl (Nat.le_of_ble_eq_true rfl) rfl ?_
  dsimp only [List.set]
  exact R_mono (hl 256 0 (kaf n p (nI 0), ((0, s.1.2), true), g) (by omega) (Nat.zero_le _)) (fun v M1 hr w hw => by rw [hw]; exact hr _ rfl)
end P34
