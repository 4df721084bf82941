/-! ===== TapeWriter: the object at 55, its tape at 56 (bytes 57), xs at 58, ys at 59 ===== -/
abbrev ES : Type := (Nat × (Nat → Int32)) × Bool
abbrev twh (m : Nat) (b : Bool) : mm_E := .inr (10, [.ref 56, .ref 58, .ref 59, .int (nI m), .int (zb b)])
abbrev tph (n : Nat) : mm_E := .inr (8, [.ref 57, .int (nI n)])
def wtm (M : mm_M) (s : ES) (xs ys : Nat → Int32) (m : Nat) : mm_M := (fun k => if k = 55 then some (twh m s.2) else if k = 56 then some (tph s.1.1) else if k = 57 then some (ia 400 s.1.2) else if k = 58 then some (ia 256 xs) else if k = 59 then some (ia 256 ys) else M.1 k, M.2)
def em (s : ES) (x : Int32) : ES := if s.1.1 < 400 then ((s.1.1 + 1, upd s.1.2 s.1.1 x), s.2) else (s.1, false)
section P33
variable {S : mm_S} {d : Nat} {M : mm_M} {xs ys p : Nat → Int32} {m n : Nat} {s : ES} {a : Nat}
theorem wt_55 : (wtm M s xs ys m).1 55 = some (twh m s.2) := rfl
theorem wt_56 : (wtm M s xs ys m).1 56 = some (tph s.1.1) := rfl
theorem wt_57 : (wtm M s xs ys m).1 57 = some (ia 400 s.1.2) := rfl
theorem wt_58 : (wtm M s xs ys m).1 58 = some (ia 256 xs) := rfl
theorem wt_59 : (wtm M s xs ys m).1 59 = some (ia 256 ys) := rfl
theorem wt_off {k : Nat} (hk : k < 55 ∨ 59 < k) : (wtm M s xs ys m).1 k = M.1 k := by
  unfold wtm
  dsimp only
  rw [if_neg (by omega), if_neg (by omega), if_neg (by omega), if_neg (by omega), if_neg (by omega)]
theorem wt_p55 {m' : Nat} {b' : Bool} : mm_put (wtm M s xs ys m) 55 (twh m' b') = wtm M (s.1, b') xs ys m' := by
  unfold mm_put mm_u wtm
  congr 1
  funext k
  by_cases h : k = 55
  · subst h; rfl
  · simp [h]
theorem wt_p58 {z : Nat → Int32} : mm_put (wtm M s xs ys m) 58 (ia 256 z) = wtm M s z ys m := by
  unfold mm_put mm_u wtm
  congr 1
  funext k
  by_cases h : k = 58
  · subst h; rfl
  · simp [h]
theorem wt_p59 {z : Nat → Int32} : mm_put (wtm M s xs ys m) 59 (ia 256 z) = wtm M s xs z m := by
  unfold mm_put mm_u wtm
  congr 1
  funext k
  by_cases h : k = 59
  · subst h; rfl
  · simp [h]
theorem wt_app {n' : Nat} {p' : Nat → Int32} : mm_put (mm_put (wtm M s xs ys m) 57 (ia 400 p')) 56 (tph n') = wtm M ((n', p'), s.2) xs ys m := by
  unfold mm_put mm_u wtm
  congr 1
  funext k
  by_cases h : k = 56
  · subst h; rfl
  · by_cases h2 : k = 57
    · subst h2; rfl
    · simp [h, h2]
theorem wt_TP (hs : s.1.1 ≤ 400) : TP (wtm M s xs ys m) 56 s.1.1 s.1.2 := ⟨rfl, rfl, hs⟩
theorem wt_IT (h : IT M a n p) (ha : a + 1 < 55 ∨ 59 < a) : IT (wtm M s xs ys m) a n p := ⟨by rw [wt_off (by omega)]; exact h.1, by rw [wt_off (by omega)]; exact h.2.1, h.2.2⟩
theorem em_le {x : Int32} (hs : s.1.1 ≤ 400) : (em s x).1.1 ≤ 400 := by
  unfold em
  split
  · show s.1.1 + 1 ≤ 400; omega
  · exact hs
theorem zb_and1 (b : Bool) : zb b &&& nI 1 = zb b := by cases b <;> decide
theorem zb_and0 (b : Bool) : zb b &&& nI 0 = zb false := by cases b <;> decide
set_option maxRecDepth 8000 in
theorem c117 {x : Int32} (hs : s.1.1 ≤ 400) : mm_R S (d + 1) 117 0 (mm_en 117 [.ref 55, .int x]) [] (wtm M s xs ys m) (fun v M' => v = none ∧ M' = wtm M (em s x) xs ys m) := by
  show mm_R S (d + 1) 117 0 [some (.ref 55), some (.int x)] [] (wtm M s xs ys m) _
  unfold em
  by_cases hn : s.1.1 < 400
  · rw [if_pos hn]
    refine R_aload_n (q := 1) rfl rfl rfl ?_
    first | refine R_dupa (q := 2) rfl rfl ?_ | refine R_dupi (q := 2) rfl rfl ?_
    refine R_getf (q := 5) rfl rfl rfl wt_55 rfl ?_
    refine R_aload_n (q := 6) rfl rfl rfl ?_
    refine R_getf (q := 9) rfl rfl rfl wt_55 rfl ?_
    refine R_iload_n (q := 10) rfl rfl rfl ?_
    refine R_callv1 (q := 13) rfl rfl rfl rfl wt_56 (Nat.le_of_ble_eq_true rfl) rfl ?_
    refine R_mono (c96 (wt_TP hs) hn) (fun v10 M10 hr10 => ?_)
    obtain ⟨rfl, hm10⟩ := hr10
    rw [wt_app] at hm10
    rw [hm10]
    dsimp only [Option.toList, List.cons_append, List.nil_append]
    refine R_iand (q := 14) rfl rfl ?_
    rw [zb_and1]
    refine R_putf (q := 17) rfl rfl rfl wt_55 (Nat.le_of_ble_eq_true rfl) (decide_eq_true (zb_01 _)) (fun hf => absurd hf (by decide)) rfl ?_
    dsimp only [List.set]
    refine R_return rfl rfl ?_
    exact ⟨rfl, wt_p55⟩
  · rw [if_neg hn]
    refine R_aload_n (q := 1) rfl rfl rfl ?_
    first | refine R_dupa (q := 2) rfl rfl ?_ | refine R_dupi (q := 2) rfl rfl ?_
    refine R_getf (q := 5) rfl rfl rfl wt_55 rfl ?_
    refine R_aload_n (q := 6) rfl rfl rfl ?_
    refine R_getf (q := 9) rfl rfl rfl wt_55 rfl ?_
    refine R_iload_n (q := 10) rfl rfl rfl ?_
    refine R_callv1 (q := 13) rfl rfl rfl rfl wt_56 (Nat.le_of_ble_eq_true rfl) rfl ?_
    refine R_mono (c96_full (wt_TP hs) (by omega)) (fun v10 M10 hr10 => ?_)
    obtain ⟨rfl, hm10⟩ := hr10
    rw [hm10]
    dsimp only [Option.toList, List.cons_append, List.nil_append]
    refine R_iand (q := 14) rfl rfl ?_
    rw [zb_and0]
    refine R_putf (q := 17) rfl rfl rfl wt_55 (Nat.le_of_ble_eq_true rfl) rfl (fun hf => absurd hf (by decide)) rfl ?_
    dsimp only [List.set]
    refine R_return rfl rfl ?_
    exact ⟨rfl, wt_p55⟩
def wln (xs ys : Nat → Int32) (k len : Nat) (s : ES) : ES := if 1 < len then em (em (em (em (em s (xs k)) (ys k)) (nI len)) ((xs (k + 1) - xs k) &&& nI 255)) ((ys (k + 1) - ys k) &&& nI 255) else em (em (em s (xs k)) (ys k)) (nI len)
theorem wln_le {k len : Nat} (hs : s.1.1 ≤ 400) : (wln xs ys k len s).1.1 ≤ 400 := by
  unfold wln
  split
  · exact em_le (em_le (em_le (em_le (em_le hs))))
  · exact em_le (em_le (em_le hs))
set_option maxRecDepth 8000 in
theorem c116 {k len : Nat} (hs : s.1.1 ≤ 400) (hk : k < 256) (hl : len < 1000) (hk1 : 1 < len → k + 1 < 256) : mm_R S (d + 2) 116 0 (mm_en 116 [.ref 55, .int (nI k), .int (nI len)]) [] (wtm M s xs ys m) (fun v M' => v = none ∧ M' = wtm M (wln xs ys k len s) xs ys m) := by
  show mm_R S (d + 2) 116 0 [some (.ref 55), some (.int (nI k)), some (.int (nI len))] [] (wtm M s xs ys m) _
  have h1 := em_le (x := xs k) hs
  have h2 := em_le (x := ys k) h1
  have h3 := em_le (x := nI len) h2
  have h4 := em_le (x := (xs (k + 1) - xs k) &&& nI 255) h3
  refine R_aload_n (q := 1) rfl rfl rfl ?_
  refine R_aload_n (q := 2) rfl rfl rfl ?_
  refine R_getf (q := 5) rfl rfl rfl wt_55 rfl ?_
  refine R_iload_n (q := 6) rfl rfl rfl ?_
  refine R_iaload (q := 7) rfl rfl wt_58 (by omega) (by first | assumption | exact in_nI (by omega) (by decide)) ?_
  rw [cl_nI (by omega)]
  refine R_callv1 (q := 10) rfl rfl rfl rfl wt_55 (Nat.le_of_ble_eq_true rfl) rfl ?_
  refine R_mono (c117 hs) (fun v7 M7 hr7 => ?_)
  obtain ⟨rfl, hm7⟩ := hr7
  rw [hm7]
  dsimp only [Option.toList, List.cons_append, List.nil_append]
  refine R_aload_n (q := 11) rfl rfl rfl ?_
  refine R_aload_n (q := 12) rfl rfl rfl ?_
  refine R_getf (q := 15) rfl rfl rfl wt_55 rfl ?_
  refine R_iload_n (q := 16) rfl rfl rfl ?_
  refine R_iaload (q := 17) rfl rfl wt_59 (by omega) (by first | assumption | exact in_nI (by omega) (by decide)) ?_
  rw [cl_nI (by omega)]
  refine R_callv1 (q := 20) rfl rfl rfl rfl wt_55 (Nat.le_of_ble_eq_true rfl) rfl ?_
  refine R_mono (c117 h1) (fun v17 M17 hr17 => ?_)
  obtain ⟨rfl, hm17⟩ := hr17
  rw [hm17]
  dsimp only [Option.toList, List.cons_append, List.nil_append]
  refine R_aload_n (q := 21) rfl rfl rfl ?_
  refine R_iload_n (q := 22) rfl rfl rfl ?_
  refine R_callv1 (q := 25) rfl rfl rfl rfl wt_55 (Nat.le_of_ble_eq_true rfl) rfl ?_
  refine R_mono (c117 h2) (fun v22 M22 hr22 => ?_)
  obtain ⟨rfl, hm22⟩ := hr22
  rw [hm22]
  dsimp only [Option.toList, List.cons_append, List.nil_append]
  refine R_iload_n (q := 26) rfl rfl rfl ?_
  refine R_iconst (q := 27) (v := nI 1) rfl rfl (by decide) ?_
  refine R_icmp_le (q := 30) (t := 76) rfl rfl rfl (fun h27 => ?_) (fun h27 => ?_)
  · refine R_return rfl rfl ?_
    unfold wln
    first
      | (rw [if_pos (nI_lt_of (by omega) h27)]; exact ⟨rfl, rfl⟩)
      | (rw [if_neg (fun q => nI_ge q (by omega) h27)]; exact ⟨rfl, rfl⟩)
  · refine R_aload_n (q := 31) rfl rfl rfl ?_
    refine R_aload_n (q := 32) rfl rfl rfl ?_
    refine R_getf (q := 35) rfl rfl rfl wt_55 rfl ?_
    refine R_iload_n (q := 36) rfl rfl rfl ?_
    refine R_iconst (q := 37) (v := nI 1) rfl rfl (by decide) ?_
    refine R_iadd (q := 38) rfl rfl ?_
    rw [nI_add]
    refine R_iaload (q := 39) rfl rfl wt_58 (by omega) (in_nI (hk1 (nI_lt_of (by omega) h27)) (by decide)) ?_
    refine R_aload_n (q := 40) rfl rfl rfl ?_
    refine R_getf (q := 43) rfl rfl rfl wt_55 rfl ?_
    refine R_iload_n (q := 44) rfl rfl rfl ?_
    refine R_iaload (q := 45) rfl rfl wt_58 (by omega) (by first | assumption | exact in_nI (by omega) (by decide)) ?_
    rw [cl_nI (by omega), cl_nI (by omega)]
    refine R_isub (q := 46) rfl rfl ?_
    refine R_sipush (q := 49) (v := nI 255) rfl rfl (by decide) ?_
    refine R_iand (q := 50) rfl rfl ?_
    refine R_callv1 (q := 53) rfl rfl rfl rfl wt_55 (Nat.le_of_ble_eq_true rfl) rfl ?_
    refine R_mono (c117 h3) (fun v50 M50 hr50 => ?_)
    obtain ⟨rfl, hm50⟩ := hr50
    rw [hm50]
    dsimp only [Option.toList, List.cons_append, List.nil_append]
    refine R_aload_n (q := 54) rfl rfl rfl ?_
    refine R_aload_n (q := 55) rfl rfl rfl ?_
    refine R_getf (q := 58) rfl rfl rfl wt_55 rfl ?_
    refine R_iload_n (q := 59) rfl rfl rfl ?_
    refine R_iconst (q := 60) (v := nI 1) rfl rfl (by decide) ?_
    refine R_iadd (q := 61) rfl rfl ?_
    rw [nI_add]
    refine R_iaload (q := 62) rfl rfl wt_59 (by omega) (in_nI (hk1 (nI_lt_of (by omega) h27)) (by decide)) ?_
    refine R_aload_n (q := 63) rfl rfl rfl ?_
    refine R_getf (q := 66) rfl rfl rfl wt_55 rfl ?_
    refine R_iload_n (q := 67) rfl rfl rfl ?_
    refine R_iaload (q := 68) rfl rfl wt_59 (by omega) (by first | assumption | exact in_nI (by omega) (by decide)) ?_
    rw [cl_nI (by omega), cl_nI (by omega)]
    refine R_isub (q := 69) rfl rfl ?_
    refine R_sipush (q := 72) (v := nI 255) rfl rfl (by decide) ?_
    refine R_iand (q := 73) rfl rfl ?_
    refine R_callv1 (q := 76) rfl rfl rfl rfl wt_55 (Nat.le_of_ble_eq_true rfl) rfl ?_
    refine R_mono (c117 h4) (fun v73 M73 hr73 => ?_)
    obtain ⟨rfl, hm73⟩ := hr73
    rw [hm73]
    dsimp only [Option.toList, List.cons_append, List.nil_append]
    refine R_return rfl rfl ?_
    unfold wln
    first
      | (rw [if_pos (nI_lt_of (by omega) h27)]; exact ⟨rfl, rfl⟩)
      | (rw [if_neg (fun q => nI_ge q (by omega) h27)]; exact ⟨rfl, rfl⟩)
def ssb (xs ys : Nat → Int32) (f e : Nat) : Bool := decide (xs e - xs (e - 1) = xs (f + 1) - xs f ∧ ys e - ys (e - 1) = ys (f + 1) - ys f)
set_option maxRecDepth 8000 in
theorem c115 {f e : Nat} (hf : f + 1 < 256) (he : 1 ≤ e ∧ e < 256) : mm_R S d 115 0 (mm_en 115 [.ref 55, .int (nI f), .int (nI e)]) [] (wtm M s xs ys m) (fun v M' => v = some (.int (zb (ssb xs ys f e))) ∧ M' = (wtm M s xs ys m)) := by
  unfold ssb
  show mm_R S d 115 0 [some (.ref 55), some (.int (nI f)), some (.int (nI e))] [] (wtm M s xs ys m) _
  refine R_aload_n (q := 1) rfl rfl rfl ?_
  refine R_getf (q := 4) rfl rfl rfl wt_55 rfl ?_
  refine R_iload_n (q := 5) rfl rfl rfl ?_
  refine R_iaload (q := 6) rfl rfl wt_58 (by omega) (by first | assumption | exact in_nI (by omega) (by decide)) ?_
  rw [cl_nI (by omega)]
  refine R_aload_n (q := 7) rfl rfl rfl ?_
  refine R_getf (q := 10) rfl rfl rfl wt_55 rfl ?_
  refine R_iload_n (q := 11) rfl rfl rfl ?_
  refine R_iconst (q := 12) (v := nI 1) rfl rfl (by decide) ?_
  refine R_isub (q := 13) rfl rfl ?_
  rw [pk_sub (by omega)]
  refine R_iaload (q := 14) rfl rfl wt_58 (by omega) (by first | assumption | exact in_nI (by omega) (by decide)) ?_
  rw [cl_nI (by omega)]
  refine R_isub (q := 15) rfl rfl ?_
  refine R_aload_n (q := 16) rfl rfl rfl ?_
  refine R_getf (q := 19) rfl rfl rfl wt_55 rfl ?_
  refine R_iload_n (q := 20) rfl rfl rfl ?_
  refine R_iconst (q := 21) (v := nI 1) rfl rfl (by decide) ?_
  refine R_iadd (q := 22) rfl rfl ?_
  rw [nI_add]
  refine R_iaload (q := 23) rfl rfl wt_58 (by omega) (by first | assumption | exact in_nI (by omega) (by decide)) ?_
  rw [cl_nI (by omega)]
  refine R_aload_n (q := 24) rfl rfl rfl ?_
  refine R_getf (q := 27) rfl rfl rfl wt_55 rfl ?_
  refine R_iload_n (q := 28) rfl rfl rfl ?_
  refine R_iaload (q := 29) rfl rfl wt_58 (by omega) (by first | assumption | exact in_nI (by omega) (by decide)) ?_
  rw [cl_nI (by omega)]
  refine R_isub (q := 30) rfl rfl ?_
  refine R_icmp_ne (q := 33) (t := 70) rfl rfl rfl (fun h30 => ?_) (fun h30 => ?_)
  · refine R_iconst (q := 71) (v := nI 0) rfl rfl (by decide) ?_
    refine R_zreturn rfl rfl (by first | exact Or.inl rfl | exact Or.inr rfl | assumption) ?_
    refine ⟨congrArg some (congrArg Value.int ?_), rfl⟩
    first
      | exact (zb_t ⟨h30, h63⟩).symm
      | exact (zb_f (fun q => h63 q.2)).symm
      | exact (zb_f (fun q => h30 q.1)).symm
  · refine R_aload_n (q := 34) rfl rfl rfl ?_
    refine R_getf (q := 37) rfl rfl rfl wt_55 rfl ?_
    refine R_iload_n (q := 38) rfl rfl rfl ?_
    refine R_iaload (q := 39) rfl rfl wt_59 (by omega) (by first | assumption | exact in_nI (by omega) (by decide)) ?_
    rw [cl_nI (by omega)]
    refine R_aload_n (q := 40) rfl rfl rfl ?_
    refine R_getf (q := 43) rfl rfl rfl wt_55 rfl ?_
    refine R_iload_n (q := 44) rfl rfl rfl ?_
    refine R_iconst (q := 45) (v := nI 1) rfl rfl (by decide) ?_
    refine R_isub (q := 46) rfl rfl ?_
    rw [pk_sub (by omega)]
    refine R_iaload (q := 47) rfl rfl wt_59 (by omega) (by first | assumption | exact in_nI (by omega) (by decide)) ?_
    rw [cl_nI (by omega)]
    refine R_isub (q := 48) rfl rfl ?_
    refine R_aload_n (q := 49) rfl rfl rfl ?_
    refine R_getf (q := 52) rfl rfl rfl wt_55 rfl ?_
    refine R_iload_n (q := 53) rfl rfl rfl ?_
    refine R_iconst (q := 54) (v := nI 1) rfl rfl (by decide) ?_
    refine R_iadd (q := 55) rfl rfl ?_
    rw [nI_add]
    refine R_iaload (q := 56) rfl rfl wt_59 (by omega) (by first | assumption | exact in_nI (by omega) (by decide)) ?_
    rw [cl_nI (by omega)]
    refine R_aload_n (q := 57) rfl rfl rfl ?_
    refine R_getf (q := 60) rfl rfl rfl wt_55 rfl ?_
    refine R_iload_n (q := 61) rfl rfl rfl ?_
    refine R_iaload (q := 62) rfl rfl wt_59 (by omega) (by first | assumption | exact in_nI (by omega) (by decide)) ?_
    rw [cl_nI (by omega)]
    refine R_isub (q := 63) rfl rfl ?_
    refine R_icmp_ne (q := 66) (t := 70) rfl rfl rfl (fun h63 => ?_) (fun h63 => ?_)
    · refine R_iconst (q := 71) (v := nI 0) rfl rfl (by decide) ?_
      refine R_zreturn rfl rfl (by first | exact Or.inl rfl | exact Or.inr rfl | assumption) ?_
      refine ⟨congrArg some (congrArg Value.int ?_), rfl⟩
      first
        | exact (zb_t ⟨h30, h63⟩).symm
        | exact (zb_f (fun q => h63 q.2)).symm
        | exact (zb_f (fun q => h30 q.1)).symm
    · refine R_iconst (q := 67) (v := nI 1) rfl rfl (by decide) ?_
      refine R_goto (t := 71) rfl rfl ?_
      refine R_zreturn rfl rfl (by first | exact Or.inl rfl | exact Or.inr rfl | assumption) ?_
      refine ⟨congrArg some (congrArg Value.int ?_), rfl⟩
      first
        | exact (zb_t ⟨h30, h63⟩).symm
        | exact (zb_f (fun q => h63 q.2)).symm
        | exact (zb_f (fun q => h30 q.1)).symm
def lef (xs ys : Nat → Int32) (f : Nat) : Nat → Nat → Nat
  | 0, e => e
  | j + 1, e => if ssb xs ys f e = true then lef xs ys f j (e + 1) else e
theorem lef_le {f : Nat} : ∀ j e, e ≤ lef xs ys f j e ∧ lef xs ys f j e ≤ e + j := by
  intro j
  induction j with
  | zero => intro e; exact ⟨Nat.le_refl _, Nat.le_refl _⟩
  | succ j ih =>
    intro e
    unfold lef
    split
    · have := ih (e + 1); omega
    · omega
set_option maxRecDepth 8000 in
theorem c114 {k : Nat} (hk : k < m) (hm : m ≤ 256) : mm_R S (d + 1) 114 0 (mm_en 114 [.ref 55, .int (nI k)]) [] (wtm M s xs ys m) (fun v M' => v = some (.int (nI (lef xs ys k (m - (k + 1)) (k + 1)))) ∧ M' = (wtm M s xs ys m)) := by
  have hl : ∀ (j e : Nat), e + j = m → k + 1 ≤ e → mm_R S (d + 1) 114 4 [some (.ref 55), some (.int (nI k)), some (.int (nI e))] [] (wtm M s xs ys m) (fun v M' => v = some (.int (nI (lef xs ys k j e))) ∧ M' = (wtm M s xs ys m)) := by
    intro j
    induction j with
    | zero =>
      intro e he he1
      refine R_iload_n (q := 5) rfl rfl rfl ?_
      refine R_aload_n (q := 6) rfl rfl rfl ?_
      refine R_getf (q := 9) rfl rfl rfl wt_55 rfl ?_
      refine R_icmp_ge (q := 12) (t := 27) rfl rfl rfl (fun h9 => ?_) (fun h9 => absurd (nI_le (by omega) (by omega)) h9)
      refine R_iload_n (q := 28) rfl rfl rfl ?_
      refine R_ireturn rfl rfl ?_
      exact ⟨rfl, rfl⟩
    | succ j ih =>
      intro e he he1
      have hst : lef xs ys k (j + 1) e = (if ssb xs ys k e = true then lef xs ys k j (e + 1) else e) := rfl
      rw [hst]
      refine R_iload_n (q := 5) rfl rfl rfl ?_
      refine R_aload_n (q := 6) rfl rfl rfl ?_
      refine R_getf (q := 9) rfl rfl rfl wt_55 rfl ?_
      refine R_icmp_ge (q := 12) (t := 27) rfl rfl rfl (fun h9 => absurd h9 (nI_ge (by omega) (by omega))) (fun h9 => ?_)
      refine R_aload_n (q := 13) rfl rfl rfl ?_
      refine R_iload_n (q := 14) rfl rfl rfl ?_
      refine R_iload_n (q := 15) rfl rfl rfl ?_
      refine R_callv2 (q := 18) rfl rfl rfl rfl wt_55 (Nat.le_of_ble_eq_true rfl) rfl ?_
      refine R_mono (c115 (by omega) (by omega)) (fun v15 M15 hr15 => ?_)
      obtain ⟨rfl, hm15⟩ := hr15
      rw [hm15]
      dsimp only [Option.toList, List.cons_append, List.nil_append]
      refine R_if_eq (q := 21) (t := 27) rfl rfl rfl (fun h18 => ?_) (fun h18 => ?_)
      · refine R_iload_n (q := 28) rfl rfl rfl ?_
        refine R_ireturn rfl rfl ?_
        rw [if_neg (by rw [zb_eq0.mp h18]; decide)]
        exact ⟨rfl, rfl⟩
      · refine R_iinc (q := 24) rfl rfl rfl (nI_i1 e) rfl ?_
        dsimp only [List.set]
        refine R_goto (t := 4) rfl rfl ?_
        rw [if_pos (zb_ne0.mp h18)]
        exact ih (e + 1) (by omega) (by omega)
  show mm_R S (d + 1) 114 0 [some (.ref 55), some (.int (nI k)), none] [] (wtm M s xs ys m) _
  refine R_iload_n (q := 1) rfl rfl rfl ?_
  refine R_iconst (q := 2) (v := nI 1) rfl rfl (by decide) ?_
  refine R_iadd (q := 3) rfl rfl ?_
  rw [nI_add]
  refine R_istore_n (q := 4) rfl rfl (Nat.le_of_ble_eq_true rfl) rfl ?_
  dsimp only [List.set]
  exact hl (m - (k + 1)) (k + 1) (by omega) (Nat.le_refl _)
/-- lines: where the line ends that stands, how many -/
def cln (xs ys : Nat → Int32) (m : Nat) : Nat → Nat → Nat × Nat → Nat × Nat
  | 0, _, s => s
  | j + 1, k, s => cln xs ys m j (k + 1) (if k = s.1 then (lef xs ys k (m - (k + 1)) (k + 1), s.2 + 1) else s)
set_option maxRecDepth 8000 in
theorem c113 (hm : m ≤ 256) : mm_R S (d + 2) 113 0 (mm_en 113 [.ref 55]) [] (wtm M s xs ys m) (fun v M' => v = some (.int (nI (cln xs ys m m 0 (0, 0)).2)) ∧ M' = (wtm M s xs ys m)) := by
  have hl : ∀ (j k : Nat) (u : Nat × Nat), k + j = m → u.1 ≤ 600 → mm_R S (d + 2) 113 6 [some (.ref 55), some (.int (nI u.2)), some (.int (nI u.1)), some (.int (nI k))] [] (wtm M s xs ys m) (fun v M' => v = some (.int (nI (cln xs ys m j k u).2)) ∧ M' = (wtm M s xs ys m)) := by
    intro j
    induction j with
    | zero =>
      intro k u hk hu
      refine R_iload_n (q := 7) rfl rfl rfl ?_
      refine R_aload_n (q := 8) rfl rfl rfl ?_
      refine R_getf (q := 11) rfl rfl rfl wt_55 rfl ?_
      refine R_icmp_ge (q := 14) (t := 34) rfl rfl rfl (fun h11 => ?_) (fun h11 => absurd (nI_le (by omega) (by omega)) h11)
      refine R_iload_n (q := 35) rfl rfl rfl ?_
      refine R_ireturn rfl rfl ?_
      exact ⟨rfl, rfl⟩
    | succ j ih =>
      intro k u hk hu
      have hle := lef_le (xs := xs) (ys := ys) (f := k) (m - (k + 1)) (k + 1)
      have hst : cln xs ys m (j + 1) k u = cln xs ys m j (k + 1) (if k = u.1 then (lef xs ys k (m - (k + 1)) (k + 1), u.2 + 1) else u) := rfl
      rw [hst]
      refine R_iload_n (q := 7) rfl rfl rfl ?_
      refine R_aload_n (q := 8) rfl rfl rfl ?_
      refine R_getf (q := 11) rfl rfl rfl wt_55 rfl ?_
      refine R_icmp_ge (q := 14) (t := 34) rfl rfl rfl (fun h11 => absurd h11 (nI_ge (by omega) (by omega))) (fun h11 => ?_)
      refine R_iload_n (q := 15) rfl rfl rfl ?_
      refine R_iload_n (q := 16) rfl rfl rfl ?_
      refine R_icmp_ne (q := 19) (t := 28) rfl rfl rfl (fun h16 => ?_) (fun h16 => ?_)
      · refine R_iinc (q := 31) rfl rfl rfl (nI_i1 k) rfl ?_
        dsimp only [List.set]
        refine R_goto (t := 6) rfl rfl ?_
        first
          | (rw [if_pos (nI_inj (by omega) (by omega) h16)]
             exact ih (k + 1) (lef xs ys k (m - (k + 1)) (k + 1), u.2 + 1) (by omega) (by show lef xs ys k (m - (k + 1)) (k + 1) ≤ 600; omega))
          | (rw [if_neg (fun q => h16 (congrArg nI q))]
             exact ih (k + 1) u (by omega) hu)
      · refine R_aload_n (q := 20) rfl rfl rfl ?_
        refine R_iload_n (q := 21) rfl rfl rfl ?_
        refine R_callv1 (q := 24) rfl rfl rfl rfl wt_55 (Nat.le_of_ble_eq_true rfl) rfl ?_
        refine R_mono (c114 (by omega) hm) (fun v21 M21 hr21 => ?_)
        obtain ⟨rfl, hm21⟩ := hr21
        rw [hm21]
        dsimp only [Option.toList, List.cons_append, List.nil_append]
        refine R_istore_n (q := 25) rfl rfl (Nat.le_of_ble_eq_true rfl) rfl ?_
        dsimp only [List.set]
        refine R_iinc (q := 28) rfl rfl rfl (nI_i1 u.2) rfl ?_
        dsimp only [List.set]
        refine R_iinc (q := 31) rfl rfl rfl (nI_i1 k) rfl ?_
        dsimp only [List.set]
        refine R_goto (t := 6) rfl rfl ?_
        first
          | (rw [if_pos (nI_inj (by omega) (by omega) h16)]
             exact ih (k + 1) (lef xs ys k (m - (k + 1)) (k + 1), u.2 + 1) (by omega) (by show lef xs ys k (m - (k + 1)) (k + 1) ≤ 600; omega))
          | (rw [if_neg (fun q => h16 (congrArg nI q))]
             exact ih (k + 1) u (by omega) hu)
  show mm_R S (d + 2) 113 0 [some (.ref 55), none, none, none] [] (wtm M s xs ys m) _
  refine R_iconst (q := 1) (v := nI 0) rfl rfl (by decide) ?_
  refine R_istore_n (q := 2) rfl rfl (Nat.le_of_ble_eq_true rfl) rfl ?_
  dsimp only [List.set]
  refine R_iconst (q := 3) (v := nI 0) rfl rfl (by decide) ?_
  refine R_istore_n (q := 4) rfl rfl (Nat.le_of_ble_eq_true rfl) rfl ?_
  dsimp only [List.set]
  refine R_iconst (q := 5) (v := nI 0) rfl rfl (by decide) ?_
  refine R_istore_n (q := 6) rfl rfl (Nat.le_of_ble_eq_true rfl) rfl ?_
  dsimp only [List.set]
  exact hl m 0 (0, 0) (by omega) (by decide)
end P33
