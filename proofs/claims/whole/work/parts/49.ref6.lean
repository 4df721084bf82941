/-! ===== the reference's own calls, V: check ===== -/
theorem bt_32 : ∀ a, a < 32 → ∀ i, i < 32 → 5 ≤ i → bt (nI a) i = false := by decide +kernel
theorem bt_31 : ∀ i, i < 32 → bt (nI 31) i = decide (i < 5) := by decide +kernel
theorem mul5 : ∀ f, f < 4 → nI f * nI 5 = nI (5 * f) := by decide +kernel
theorem pkd_bt {x y w h : Int32} {j : Nat} (hj : j < 32) : bt (pkd x y w h) j = (((bt x j || (decide (5 ≤ j) && bt y (j - 5))) || (decide (10 ≤ j) && bt w (j - 10))) || (decide (15 ≤ j) && bt h (j - 15))) := by
  unfold pkd
  rw [b_or, b_or, b_or, b_shl 5 (by omega) _ hj, b_shl 10 (by omega) _ hj, b_shl 15 (by omega) _ hj]
def fq (a b c e f : Nat) : Nat := if f = 0 then a else if f = 1 then b else if f = 2 then c else e
theorem pkd_un {a b c e f : Nat} (ha : a < 32) (hb' : b < 32) (hc : c < 32) (he : e < 32) (hf : f < 4) : (pkd (nI a) (nI b) (nI c) (nI e) >>> (nI f * nI 5 &&& 31)) &&& nI 31 = nI (fq a b c e f) := by
  rw [mul5 f hf]
  apply b_ext
  intro i hi
  rw [b_and, bt_31 i hi, b_sshr (5 * f) (by omega) _ hi]
  by_cases h5 : i < 5
  · rw [decide_eq_true h5, Bool.and_true, if_pos (by omega), pkd_bt (by omega)]
    unfold fq
    have hff : f = 0 ∨ f = 1 ∨ f = 2 ∨ f = 3 := by omega
    rcases hff with rfl | rfl | rfl | rfl
    · rw [if_pos rfl, decide_eq_false (by omega : ¬ 5 ≤ 5 * 0 + i), decide_eq_false (by omega : ¬ 10 ≤ 5 * 0 + i), decide_eq_false (by omega : ¬ 15 ≤ 5 * 0 + i), show 5 * 0 + i = i by omega]
      simp
    · rw [if_neg (by decide), if_pos rfl, bt_32 a ha (5 * 1 + i) (by omega) (by omega), decide_eq_true (by omega : 5 ≤ 5 * 1 + i), decide_eq_false (by omega : ¬ 10 ≤ 5 * 1 + i), decide_eq_false (by omega : ¬ 15 ≤ 5 * 1 + i), show 5 * 1 + i - 5 = i by omega]
      simp
    · rw [if_neg (by decide), if_neg (by decide), if_pos rfl, bt_32 a ha (5 * 2 + i) (by omega) (by omega), bt_32 b hb' (5 * 2 + i - 5) (by omega) (by omega), decide_eq_true (by omega : 10 ≤ 5 * 2 + i), decide_eq_false (by omega : ¬ 15 ≤ 5 * 2 + i), show 5 * 2 + i - 10 = i by omega]
      simp
    · rw [if_neg (by decide), if_neg (by decide), if_neg (by decide), bt_32 a ha (5 * 3 + i) (by omega) (by omega), bt_32 b hb' (5 * 3 + i - 5) (by omega) (by omega), bt_32 c hc (5 * 3 + i - 10) (by omega) (by omega), decide_eq_true (by omega : 15 ≤ 5 * 3 + i), show 5 * 3 + i - 15 = i by omega]
      simp
  · rw [decide_eq_false h5, Bool.and_false]
    refine (bt_32 _ ?_ i hi (by omega)).symm
    unfold fq
    split
    · exact ha
    · split
      · exact hb'
      · split
        · exact hc
        · exact he
theorem itv_in {n k f : Nat} {p : Nat → Int32} (hk : k < n) (hn : n < 2147483648) (hf : f < 4) : itv n p (nI k) (nI f) = (p k >>> (nI f * nI 5 &&& 31)) &&& nI 31 := by
  unfold itv
  rw [if_pos ⟨⟨by rw [i_n _ (by omega)]; omega, by rw [i_n _ (by omega)]; omega⟩, by rw [i_n _ (by omega)]; omega, by rw [i_n _ (by omega)]; omega⟩, cl_nI (by omega)]
def IRF (F : Nat → Int32) (s : IS) : Prop := ∀ k f, k < s.1 → f < 4 → F (4 * k + f) = itv s.1 s.2 (nI k) (nI f)
theorem IRF_app {F : Nat → Int32} {s : IS} {a b c e : Nat} (h : IRF F s) (hs : s.1 < 256) (ha : a < 32) (hb' : b < 32) (hc : c < 32) (he : e < 32) : IRF (up4 F (4 * s.1) (nI a) (nI b) (nI c) (nI e)) (fapp s (nI a) (nI b) (nI c) (nI e)) := by
  unfold fapp
  rw [if_pos hs]
  intro k f hk hf
  have hk : k < s.1 + 1 := hk
  dsimp only
  rw [itv_in hk (by omega) hf]
  by_cases hq : k = s.1
  · subst hq
    rw [upd_e, pkd_un ha hb' hc he hf]
    have hff : f = 0 ∨ f = 1 ∨ f = 2 ∨ f = 3 := by omega
    rcases hff with rfl | rfl | rfl | rfl
    · exact up4_0
    · exact up4_1
    · exact up4_2
    · exact up4_3
  · rw [upd_n hq, up4_o (by omega), h k f (by omega) hf, itv_in (by omega) (by omega) hf]
theorem re_stop {g : Nat → Bool} : ∀ n s, re g n s < s + n → g (re g n s) = false := by
  intro n
  induction n with
  | zero => intro s h; exact absurd h (by show ¬ s < s + 0; omega)
  | succ n ih =>
    intro s h
    by_cases hg : g s = true
    · have e : re g (n + 1) s = re g n (s + 1) := if_pos hg
      rw [e] at h ⊢
      exact ih (s + 1) (by omega)
    · have e : re g (n + 1) s = s := if_neg hg
      rw [e]
      exact Bool.eq_false_iff.mpr hg
def hl (B : Int32) (p : Int) : Bool := decide (0 ≤ p ∧ p < 16) && bt B p.toNat
theorem hl_n {B : Int32} {p : Nat} (hp : p < 16) : hl B (p : Int) = bt B p := by
  unfold hl
  rw [decide_eq_true (by omega), Bool.true_and]
  rfl
theorem lkd_bt {g : Bool} {B : Int32} {i : Nat} (hi : i < 16) : bt (lkd g B) i = (bt B i == !g) := by
  unfold lkd
  cases g
  · rw [if_neg (by decide)]
    cases bt B i <;> rfl
  · rw [if_pos rfl, b_and, b_xor, b_m1 i (by omega), b_65535, decide_eq_true hi]
    cases bt B i <;> rfl
/-- where a run begins -/
def bgn (B : Int32) (a : Nat) (g : Bool) : Bool := (bt B a == !g) && (hl B ((a : Int) - 1) == g)
theorem hl_m {B : Int32} {a : Nat} (ha : a < 16) : hl B ((a : Int) - 1) = (decide (0 < a) && bt B (a - 1)) := by
  unfold hl
  by_cases h : 0 < a
  · rw [decide_eq_true h, decide_eq_true (by omega), show ((a : Int) - 1).toNat = a - 1 by omega]
  · rw [decide_eq_false h, decide_eq_false (by omega), Bool.false_and, Bool.false_and]
theorem fl_no {B : Int32} {a w : Nat} {g : Bool} (ha : a < 16) (h : bgn B a g = false) : flen (lkd g B) a g w = 0 := by
  unfold flen
  rw [lkd_bt ha]
  unfold bgn at h
  rw [hl_m ha] at h
  by_cases h1 : (bt B a == !g) = true
  · rw [h1, Bool.true_and] at h
    by_cases h0 : 0 < a
    · rw [decide_eq_true h0, Bool.true_and] at h
      rw [if_pos (Or.inr ⟨h0, by rw [lkd_bt (by omega)]; revert h; cases bt B (a - 1) <;> cases g <;> decide⟩)]
    · rw [decide_eq_false h0, Bool.false_and] at h
      have hg : g = true := by revert h; cases g <;> decide
      split
      · rfl
      · rw [if_pos ⟨hg, Or.inl (by omega)⟩]
  · rw [if_pos (Or.inl (Bool.eq_false_iff.mpr h1))]
theorem fl_yes {B : Int32} {a w : Nat} {g : Bool} (ha : a < 16) (h : bgn B a g = true) : flen (lkd g B) a g w = if re (bt (lkd g B)) (16 - a) a - a < w ∧ (g = false ∨ hl B (re (bt (lkd g B)) (16 - a) a : Nat) = true) then re (bt (lkd g B)) (16 - a) a - a else 0 := by
  unfold flen
  unfold bgn at h
  rw [Bool.and_eq_true, hl_m ha] at h
  have hr := re_ge (bt (lkd g B)) (16 - a) a
  have hst := re_stop (g := bt (lkd g B)) (16 - a) a
  have h1 : ¬ (bt (lkd g B) a = false ∨ 0 < a ∧ bt (lkd g B) (a - 1) = true) := by
    rw [lkd_bt ha, h.1]
    intro q
    rcases q with q | ⟨q1, q2⟩
    · exact absurd q (by decide)
    · rw [lkd_bt (by omega)] at q2
      have h2 := h.2
      rw [decide_eq_true q1, Bool.true_and] at h2
      revert q2 h2
      cases bt B (a - 1) <;> cases g <;> decide
  rw [if_neg h1]
  generalize re (bt (lkd g B)) (16 - a) a = R at hr hst ⊢
  cases g
  · rw [if_neg (fun q => Bool.noConfusion q.1)]
    by_cases hw : R - a < w
    · rw [if_pos hw, if_pos ⟨hw, Or.inl rfl⟩]
    · rw [if_neg hw, if_neg (fun q => hw q.1)]
  · have h2 := h.2
    have ha0 : 0 < a := by
      by_cases h0 : 0 < a
      · exact h0
      · rw [decide_eq_false h0, Bool.false_and] at h2; exact absurd h2 (by decide)
    by_cases h16 : R = 16
    · rw [if_pos ⟨rfl, Or.inr h16⟩, if_neg]
      intro q
      rcases q.2 with q | q
      · exact absurd q (by decide)
      · rw [h16] at q; unfold hl at q; rw [decide_eq_false (by omega), Bool.false_and] at q; exact absurd q (by decide)
    · rw [if_neg (fun q => q.2.elim (fun z => by omega) h16)]
      have hh : hl B (R : Nat) = true := by
        rw [hl_n (by omega)]
        have := hst (by omega)
        rw [lkd_bt (by omega)] at this
        revert this
        cases bt B R <;> decide
      by_cases hw : R - a < w
      · rw [if_pos hw, if_pos ⟨hw, Or.inr hh⟩]
      · rw [if_neg hw, if_neg (fun q => hw q.1)]
theorem fl_le {lk : Int32} {a w : Nat} {g : Bool} (ha : a < 16) : flen lk a g w ≤ 16 := by
  unfold flen
  have := re_ge (bt lk) (16 - a) a
  split
  · omega
  · split
    · omega
    · split <;> omega
theorem fl_pos {lk : Int32} {a w : Nat} {g : Bool} (h : 0 < flen lk a g w) : bt lk a = true ∧ ¬ (0 < a ∧ bt lk (a - 1) = true) := by
  unfold flen at h
  by_cases q : bt lk a = false ∨ 0 < a ∧ bt lk (a - 1) = true
  · rw [if_pos q] at h; exact absurd h (Nat.lt_irrefl 0)
  · exact ⟨by cases hb' : bt lk a; exact absurd (Or.inl hb') q; rfl, fun z => q (Or.inr z)⟩
def lBu (f : Nat → Int32) (k : Nat) : Int32 := if k / 256 = 0 then f (k / 16 % 16) else colv f (k / 16 % 16) 16
def Pk (k : Nat) (s : IS) (n : Nat) : IS := if k / 256 = 0 then Plev (k / 16 % 16) s (k % 16) n else Pupr (k / 16 % 16) s (k % 16) n
def stp (f : Nat → Int32) (g : Bool) (w k : Nat) (s : IS) : IS := if 0 < flen (lkd g (lBu f k)) (k % 16) g w then Pk k s (flen (lkd g (lBu f k)) (k % 16) g w) else s
def stl (f : Nat → Int32) (g : Bool) (w : Nat) : Nat → Nat → IS → IS
  | 0, _, s => s
  | j + 1, k, s => stl f g w j (k + 1) (stp f g w k s)
theorem stl_add {f : Nat → Int32} {g : Bool} {w : Nat} : ∀ a b k s, stl f g w (a + b) k s = stl f g w b (k + a) (stl f g w a k s) := by
  intro a
  induction a with
  | zero => intro b k s; rw [Nat.zero_add]; rfl
  | succ a ih =>
    intro b k s
    rw [show a + 1 + b = (a + b) + 1 by omega]
    show stl f g w (a + b) (k + 1) (stp f g w k s) = stl f g w b (k + (a + 1)) (stl f g w a (k + 1) (stp f g w k s))
    rw [ih, show k + 1 + a = k + (a + 1) by omega]
theorem stl_x0 {f : Nat → Int32} {g : Bool} {w y : Nat} (hy : y < 16) : ∀ j i s, i + j ≤ 16 → stl f g w j (16 * y + i) s = ffx (lkd g (f y)) g w (Plev y) j i s := by
  intro j
  induction j with
  | zero => intro i s _; rfl
  | succ j ih =>
    intro i s h
    show stl f g w j (16 * y + (i + 1)) (stp f g w (16 * y + i) s) = ffx _ g w _ j (i + 1) _
    rw [ih (i + 1) _ (by omega)]
    unfold stp lBu Pk
    rw [show (16 * y + i) / 256 = 0 by omega, show (16 * y + i) / 16 % 16 = y by omega, show (16 * y + i) % 16 = i by omega, if_pos rfl, if_pos rfl]
theorem stl_x1 {f : Nat → Int32} {g : Bool} {w y : Nat} (hy : y < 16) : ∀ j i s, i + j ≤ 16 → stl f g w j (256 + 16 * y + i) s = ffx (lkd g (colv f y 16)) g w (Pupr y) j i s := by
  intro j
  induction j with
  | zero => intro i s _; rfl
  | succ j ih =>
    intro i s h
    show stl f g w j (256 + 16 * y + (i + 1)) (stp f g w (256 + 16 * y + i) s) = ffx _ g w _ j (i + 1) _
    rw [ih (i + 1) _ (by omega)]
    unfold stp lBu Pk
    rw [show (256 + 16 * y + i) / 256 = 1 by omega, show (256 + 16 * y + i) / 16 % 16 = y by omega, show (256 + 16 * y + i) % 16 = i by omega, if_neg (show ¬ (1 : Nat) = 0 by decide), if_neg (show ¬ (1 : Nat) = 0 by decide)]
theorem stl_l0 {f : Nat → Int32} {g : Bool} {w : Nat} : ∀ j y s, y + j ≤ 16 → stl f g w (16 * j) (16 * y) s = ffl f g w Plev j y s := by
  intro j
  induction j with
  | zero => intro y s _; rfl
  | succ j ih =>
    intro y s h
    rw [show 16 * (j + 1) = 16 + 16 * j by omega, stl_add, show 16 * y + 16 = 16 * (y + 1) by omega, ih _ _ (by omega), show 16 * y = 16 * y + 0 from rfl, stl_x0 (by omega) 16 0 s (by omega)]
    rfl
theorem stl_l1 {f : Nat → Int32} {g : Bool} {w : Nat} : ∀ j y s, y + j ≤ 16 → stl f g w (16 * j) (256 + 16 * y) s = ffl (fun x => colv f x 16) g w Pupr j y s := by
  intro j
  induction j with
  | zero => intro y s _; rfl
  | succ j ih =>
    intro y s h
    rw [show 16 * (j + 1) = 16 + 16 * j by omega, stl_add, show 256 + 16 * y + 16 = 256 + 16 * (y + 1) by omega, ih _ _ (by omega), show 256 + 16 * y = 256 + 16 * y + 0 from rfl, stl_x1 (by omega) 16 0 s (by omega)]
    rfl
theorem stl_all {f : Nat → Int32} {g : Bool} {w : Nat} {p : Nat → Int32} : stl f g w 512 0 (0, p) = ffall f g w p := by
  rw [show 512 = 16 * 16 + 16 * 16 by decide, stl_add, show 0 + 16 * 16 = 256 + 16 * 0 by decide, stl_l1 16 0 _ (by decide), show (0 : Nat) = 16 * 0 by decide, stl_l0 16 0 _ (by decide)]
  rfl
def CB (f : Nat → Int32) (g : Bool) (k : Nat) (s : IS) : Prop := s.1 ≤ 8 * (k / 16) + (if 0 < k % 16 ∧ bt (lkd g (lBu f k)) (k % 16 - 1) = true then (k % 16 + 1) / 2 else k % 16 / 2)
theorem CB_lt {f : Nat → Int32} {g : Bool} {w k : Nat} {s : IS} (h : CB f g k s) (hk : k < 512) (hf : 0 < flen (lkd g (lBu f k)) (k % 16) g w) : s.1 < 256 := by
  unfold CB at h
  rw [if_neg (fl_pos hf).2] at h
  omega
theorem fapp_1 {s : IS} {x y w h : Int32} : (fapp s x y w h).1 ≤ s.1 + 1 := by
  unfold fapp
  split
  · exact Nat.le_refl _
  · omega
theorem Pk_1 {k n : Nat} {s : IS} : (Pk k s n).1 ≤ s.1 + 1 := by
  unfold Pk
  split
  · exact fapp_1
  · exact fapp_1
theorem CB_s {f : Nat → Int32} {g : Bool} {w k : Nat} {s : IS} (h : CB f g k s) (hk : k < 512) : CB f g (k + 1) (stp f g w k s) := by
  have h' := h
  unfold CB at h ⊢
  have h1 : (stp f g w k s).1 ≤ s.1 + (if 0 < flen (lkd g (lBu f k)) (k % 16) g w then 1 else 0) := by
    unfold stp
    split
    · exact Pk_1
    · exact Nat.le_refl _
  by_cases h15 : k % 16 = 15
  · rw [if_neg (by omega)]
    by_cases hf : 0 < flen (lkd g (lBu f k)) (k % 16) g w
    · rw [if_pos hf] at h1
      rw [if_neg (fl_pos hf).2] at h
      omega
    · rw [if_neg hf] at h1
      have : (if 0 < k % 16 ∧ bt (lkd g (lBu f k)) (k % 16 - 1) = true then (k % 16 + 1) / 2 else k % 16 / 2) ≤ 8 := by split <;> omega
      omega
  · have e1 : lBu f (k + 1) = lBu f k := by
      unfold lBu
      rw [show (k + 1) / 256 = k / 256 by omega, show (k + 1) / 16 = k / 16 by omega]
    rw [e1, show (k + 1) % 16 = k % 16 + 1 by omega, Nat.add_sub_cancel, show (k + 1) / 16 = k / 16 by omega]
    by_cases hf : 0 < flen (lkd g (lBu f k)) (k % 16) g w
    · rw [if_pos hf] at h1
      rw [if_neg (fl_pos hf).2] at h
      rw [if_pos ⟨by omega, (fl_pos hf).1⟩]
      omega
    · rw [if_neg hf] at h1
      have : (if 0 < k % 16 ∧ bt (lkd g (lBu f k)) (k % 16 - 1) = true then (k % 16 + 1) / 2 else k % 16 / 2) ≤ (k % 16 + 1) / 2 := by split <;> omega
      split <;> omega
theorem hs_ln {f : Nat → Int32} {k : Nat} {X Y : Int32} {p : Int} (hk : k < 512) (h : k / 256 = 0 ∧ X.toInt = p ∧ Y.toInt = (k / 16 % 16 : Nat) ∨ k / 256 = 1 ∧ X.toInt = (k / 16 % 16 : Nat) ∧ Y.toInt = p) : hs f X Y = hl (lBu f k) p := by
  apply Bool.eq_iff_iff.mpr
  rw [hs_H]
  unfold Hp hl lBu
  rw [Bool.and_eq_true, decide_eq_true_iff]
  rcases h with ⟨h1, h2, h3⟩ | ⟨h1, h2, h3⟩
  · rw [h2, h3, if_pos h1]
    exact ⟨fun q => ⟨q.1, q.2.2⟩, fun q => ⟨q.1, by omega, q.2⟩⟩
  · rw [h2, h3, if_neg (by omega)]
    constructor
    · intro q
      exact ⟨q.2.1, by rw [colv_bt (by omega) 16 (by omega) _ (by omega), decide_eq_true (by omega), Bool.true_and]; exact q.2.2⟩
    · intro q
      have q2 := q.2
      rw [colv_bt (by omega) 16 (by omega) _ (by omega), decide_eq_true (by omega), Bool.true_and] at q2
      exact ⟨by omega, q.1, q2⟩
theorem upd_uu {f : Nat → Int32} {k : Nat} {x y : Int32} : upd (upd f k x) k y = upd f k y := by
  funext i
  unfold upd
  by_cases h : i = k
  · rw [if_pos h, if_pos h]
  · rw [if_neg h, if_neg h, if_neg h]
section P49
variable {S : mm_S} {d : Nat} {M : mm_M} {A : AS} {I : Nat → Int32} {sh : Nat → Nat → Int32} {o : OS} {l : LYS} {pi fa tp : IS}
set_option maxRecDepth 8000 in
theorem m178 {x y n u : Int32} {c : Nat} (hI : I 46 = nI c) (hc : c < 256) : mm_R S (d + 0) 178 0 (mm_en 178 [.ref 73, .int x, .int y, .int n, .int u]) [] (mdm M A I) (fun v M' => v = none ∧ M' = mdm M (upa A 108 (up4 (A 108) (4 * c) x y n u)) (upd I 46 (nI (c + 1)))) := by
  show mm_R S (d + 0) 178 0 [some (.ref 73), some (.int x), some (.int y), some (.int n), some (.int u)] [] (mdm M A I) _
  refine R_aload_n (q := 1) rfl rfl rfl ?_
  refine R_getf (q := 4) rfl rfl rfl md_73 rfl ?_
  refine R_iconst (q := 5) (v := nI 4) rfl rfl (by decide) ?_
  refine R_aload_n (q := 6) rfl rfl rfl ?_
  refine R_getf (q := 9) rfl rfl rfl md_73 rfl ?_
  rw [hI]
  refine R_imul (q := 10) rfl rfl ?_
  rw [pk_mul]
  refine R_iload_n (q := 11) rfl rfl rfl ?_
  refine R_iastore (q := 12) rfl rfl md_108 (by first | assumption | exact in_nI (by omega) (by decide)) ?_
  rw [cl_nI (by omega)]
  rw [md_p108]
  refine R_aload_n (q := 13) rfl rfl rfl ?_
  refine R_getf (q := 16) rfl rfl rfl md_73 rfl ?_
  refine R_iconst (q := 17) (v := nI 4) rfl rfl (by decide) ?_
  refine R_aload_n (q := 18) rfl rfl rfl ?_
  refine R_getf (q := 21) rfl rfl rfl md_73 rfl ?_
  rw [hI]
  refine R_imul (q := 22) rfl rfl ?_
  rw [pk_mul]
  refine R_iconst (q := 23) (v := nI 1) rfl rfl (by decide) ?_
  refine R_iadd (q := 24) rfl rfl ?_
  rw [nI_add]
  refine R_iload_n (q := 25) rfl rfl rfl ?_
  refine R_iastore (q := 26) rfl rfl md_108 (by first | assumption | exact in_nI (by omega) (by decide)) ?_
  rw [cl_nI (by omega)]
  rw [md_p108]
  rw [upa_u, upa_e]
  refine R_aload_n (q := 27) rfl rfl rfl ?_
  refine R_getf (q := 30) rfl rfl rfl md_73 rfl ?_
  refine R_iconst (q := 31) (v := nI 4) rfl rfl (by decide) ?_
  refine R_aload_n (q := 32) rfl rfl rfl ?_
  refine R_getf (q := 35) rfl rfl rfl md_73 rfl ?_
  rw [hI]
  refine R_imul (q := 36) rfl rfl ?_
  rw [pk_mul]
  refine R_iconst (q := 37) (v := nI 2) rfl rfl (by decide) ?_
  refine R_iadd (q := 38) rfl rfl ?_
  rw [nI_add]
  refine R_iload_n (q := 39) rfl rfl rfl ?_
  refine R_iastore (q := 40) rfl rfl md_108 (by first | assumption | exact in_nI (by omega) (by decide)) ?_
  rw [cl_nI (by omega)]
  rw [md_p108]
  rw [upa_u, upa_e]
  refine R_aload_n (q := 41) rfl rfl rfl ?_
  refine R_getf (q := 44) rfl rfl rfl md_73 rfl ?_
  refine R_iconst (q := 45) (v := nI 4) rfl rfl (by decide) ?_
  refine R_aload_n (q := 46) rfl rfl rfl ?_
  refine R_getf (q := 49) rfl rfl rfl md_73 rfl ?_
  rw [hI]
  refine R_imul (q := 50) rfl rfl ?_
  rw [pk_mul]
  refine R_iconst (q := 51) (v := nI 3) rfl rfl (by decide) ?_
  refine R_iadd (q := 52) rfl rfl ?_
  rw [nI_add]
  refine R_iload (q := 54) rfl rfl rfl ?_
  refine R_iastore (q := 55) rfl rfl md_108 (by first | assumption | exact in_nI (by omega) (by decide)) ?_
  rw [cl_nI (by omega)]
  rw [md_p108]
  rw [upa_u, upa_e]
  refine R_aload_n (q := 56) rfl rfl rfl ?_
  first | refine R_dupa (q := 57) rfl rfl ?_ | refine R_dupi (q := 57) rfl rfl ?_
  refine R_getf (q := 60) rfl rfl rfl md_73 rfl ?_
  rw [hI]
  refine R_iconst (q := 61) (v := nI 1) rfl rfl (by decide) ?_
  refine R_iadd (q := 62) rfl rfl ?_
  rw [nI_add]
  refine R_putf (q := 65) rfl rfl rfl md_73 (Nat.le_of_ble_eq_true rfl) rfl (fun hf => absurd hf (by decide)) rfl ?_
  dsimp only [List.set]
  rw [md_f46]
  refine R_return rfl rfl ?_
  exact ⟨rfl, rfl⟩
set_option maxRecDepth 8000 in
theorem m179_n {s w k a : Nat} {g : Bool} {kd0 U V X Y D B : Int32} {P : Option Value → mm_M → Prop} (hc : CRl A sh) (hs6 : s < 6) (ha : a < 16) (hw : w ≤ 16) (hn : ∀ n, n ≤ 16 → hs (sh s) (X + nI n * D) (Y + nI n * U) = hl B ((a : Int) + n)) : ∀ (j n : Nat), a + n + j = 16 → mm_R S (d + 2) 179 231 [some (.ref 73), some (.int (nI s)), some (.int kd0), some (.int (nI w)), some (.int (zb (!g))), some (.int (nI k)), some (.int U), some (.int V), some (.int (nI a)), some (.int X), some (.int Y), some (.int D), some (.int (nI 1)), some (.int (nI (re (bt (lkd g B)) j (a + n) - a)))] [] (mdm M A I) P → mm_R S (d + 2) 179 184 [some (.ref 73), some (.int (nI s)), some (.int kd0), some (.int (nI w)), some (.int (zb (!g))), some (.int (nI k)), some (.int U), some (.int V), some (.int (nI a)), some (.int X), some (.int Y), some (.int D), some (.int (nI 1)), some (.int (nI n))] [] (mdm M A I) P := by
  intro j
  induction j with
  | zero =>
    intro n hj hK
    have e0 : re (bt (lkd g B)) 0 (a + n) - a = n := by show a + n - a = n; omega
    rw [e0] at hK
    refine R_iload (q := 186) rfl rfl rfl ?_
    refine R_if_eq (q := 189) (t := 231) rfl rfl rfl (fun h186 => absurd h186 (by decide)) (fun h186 => ?_)
    refine R_iload (q := 191) rfl rfl rfl ?_
    refine R_iload (q := 193) rfl rfl rfl ?_
    refine R_iadd (q := 194) rfl rfl ?_
    rw [nI_add]
    refine R_bipush (q := 196) (v := nI 16) rfl rfl (by decide) ?_
    refine R_icmp_ge (q := 199) (t := 231) rfl rfl rfl (fun h196 => ?_) (fun h196 => absurd (nI_le (by omega) (by omega)) h196)
    exact hK
  | succ j ih =>
    intro n hj hK
    have e1 : re (bt (lkd g B)) (j + 1) (a + n) = if (bt B (a + n) == !g) = true then re (bt (lkd g B)) j (a + n + 1) else a + n := by
      show (if bt (lkd g B) (a + n) = true then _ else _) = _
      rw [lkd_bt (by omega)]
    have e2 : hl B ((a : Int) + n) = bt B (a + n) := by rw [show (a : Int) + n = ((a + n : Nat) : Int) by omega, hl_n (by omega)]
    refine R_iload (q := 186) rfl rfl rfl ?_
    refine R_if_eq (q := 189) (t := 231) rfl rfl rfl (fun h186 => absurd h186 (by decide)) (fun h186 => ?_)
    refine R_iload (q := 191) rfl rfl rfl ?_
    refine R_iload (q := 193) rfl rfl rfl ?_
    refine R_iadd (q := 194) rfl rfl ?_
    rw [nI_add]
    refine R_bipush (q := 196) (v := nI 16) rfl rfl (by decide) ?_
    refine R_icmp_ge (q := 199) (t := 231) rfl rfl rfl (fun h196 => absurd h196 (nI_ge (by omega) (by omega))) (fun h196 => ?_)
    refine R_aload_n (q := 200) rfl rfl rfl ?_
    refine R_iload_n (q := 201) rfl rfl rfl ?_
    refine R_iload (q := 203) rfl rfl rfl ?_
    refine R_iload (q := 205) rfl rfl rfl ?_
    refine R_iload (q := 207) rfl rfl rfl ?_
    refine R_imul (q := 208) rfl rfl ?_
    refine R_iadd (q := 209) rfl rfl ?_
    refine R_iload (q := 211) rfl rfl rfl ?_
    refine R_iload (q := 213) rfl rfl rfl ?_
    refine R_iload (q := 215) rfl rfl rfl ?_
    refine R_imul (q := 216) rfl rfl ?_
    refine R_iadd (q := 217) rfl rfl ?_
    refine R_callv3 (q := 220) rfl rfl rfl rfl md_73 (Nat.le_of_ble_eq_true rfl) rfl ?_
    refine R_mono (m149 hc hs6) (fun v217 M217 hr217 => ?_)
    obtain ⟨rfl, hm217⟩ := hr217
    rw [hm217]
    dsimp only [Option.toList, List.cons_append, List.nil_append]
    rw [hn n (by omega), e2]
    refine R_iload (q := 222) rfl rfl rfl ?_
    refine R_icmp_ne (q := 225) (t := 231) rfl rfl rfl (fun h222 => ?_) (fun h222 => ?_)
    · have q : ¬ (bt B (a + n) == !g) = true := fun z => h222 (congrArg zb (eq_of_beq z))
      rw [e1, if_neg q, show a + n - a = n by omega] at hK
      exact hK
    · refine R_iinc (q := 228) rfl rfl rfl (nI_i1 n) rfl ?_
      dsimp only [List.set]
      refine R_goto (t := 184) rfl rfl ?_
      have q : bt B (a + n) = !g := zb_inj.mp h222
      rw [e1, if_pos (by rw [q]; exact beq_self_eq_true _)] at hK
      exact ih (n + 1) (by omega) hK
set_option maxRecDepth 8000 in
theorem m179_st {s w k a c : Nat} {g : Bool} {kd0 U V X Y D B : Int32} {t12 t13 : Option Value} {P : Option Value → mm_M → Prop} (hc : CRl A sh) (hs6 : s < 6) (ha : a < 16) (hw : w ≤ 16) (h0 : hs (sh s) X Y = hl B (a : Int)) (h1 : hs (sh s) (X - D) (Y - U) = hl B ((a : Int) - 1)) (hn : ∀ n, n ≤ 16 → hs (sh s) (X + nI n * D) (Y + nI n * U) = hl B ((a : Int) + n)) (hI : I 46 = nI c) (hcc : 0 < flen (lkd g B) a g w → c < 256) (K0 : ∀ t12 t13, flen (lkd g B) a g w = 0 → mm_R S (d + 2) 179 283 [some (.ref 73), some (.int (nI s)), some (.int kd0), some (.int (nI w)), some (.int (zb (!g))), some (.int (nI k)), some (.int U), some (.int V), some (.int (nI a)), some (.int X), some (.int Y), some (.int D), t12, t13] [] (mdm M A I) P) (K1 : ∀ t12 t13, 0 < flen (lkd g B) a g w → mm_R S (d + 2) 179 283 [some (.ref 73), some (.int (nI s)), some (.int kd0), some (.int (nI w)), some (.int (zb (!g))), some (.int (nI k)), some (.int U), some (.int V), some (.int (nI a)), some (.int X), some (.int Y), some (.int D), t12, t13] [] (mdm M (upa A 108 (up4 (A 108) (4 * c) X Y (nI (flen (lkd g B) a g w)) U)) (upd I 46 (nI (c + 1)))) P) : mm_R S (d + 2) 179 116 [some (.ref 73), some (.int (nI s)), some (.int kd0), some (.int (nI w)), some (.int (zb (!g))), some (.int (nI k)), some (.int U), some (.int V), some (.int (nI a)), some (.int X), some (.int Y), some (.int D), t12, t13] [] (mdm M A I) P := by
  rw [hl_n ha] at h0
  have h179 : ∀ v : Int32, v = zb (bgn B a g) → mm_R S (d + 2) 179 179 [some (.ref 73), some (.int (nI s)), some (.int kd0), some (.int (nI w)), some (.int (zb (!g))), some (.int (nI k)), some (.int U), some (.int V), some (.int (nI a)), some (.int X), some (.int Y), some (.int D), t12, t13] [.int v] (mdm M A I) P := by
    intro v hv
    rw [hv]
    cases hbg : bgn B a g
    · skip
      refine R_istore (q := 181) rfl rfl (Nat.le_of_ble_eq_true rfl) rfl ?_
      dsimp only [List.set]
      refine R_iconst (q := 182) (v := nI 0) rfl rfl (by decide) ?_
      refine R_istore (q := 184) rfl rfl (Nat.le_of_ble_eq_true rfl) rfl ?_
      dsimp only [List.set]
      refine R_iload (q := 186) rfl rfl rfl ?_
      refine R_if_eq (q := 189) (t := 231) rfl rfl rfl (fun h186 => ?_) (fun h186 => absurd rfl h186)
      refine R_iload (q := 233) rfl rfl rfl ?_
      refine R_if_eq (q := 236) (t := 283) rfl rfl rfl (fun h233 => ?_) (fun h233 => absurd rfl h233)
      exact K0 _ _ (fl_no ha hbg)
    · have hy := fl_yes (w := w) ha hbg
      have hr := re_ge (bt (lkd g B)) (16 - a) a
      have hp : a + 1 ≤ re (bt (lkd g B)) (16 - a) a := by
        have e1 : re (bt (lkd g B)) (16 - a) a = re (bt (lkd g B)) (15 - a) (a + 1) := by
          rw [show 16 - a = (15 - a) + 1 by omega]
          refine if_pos ?_
          rw [lkd_bt ha]
          unfold bgn at hbg
          exact (Bool.and_eq_true _ _ ▸ hbg).1
        rw [e1]
        exact (re_ge _ _ _).1
      refine R_istore (q := 181) rfl rfl (Nat.le_of_ble_eq_true rfl) rfl ?_
      dsimp only [List.set]
      refine R_iconst (q := 182) (v := nI 0) rfl rfl (by decide) ?_
      refine R_istore (q := 184) rfl rfl (Nat.le_of_ble_eq_true rfl) rfl ?_
      dsimp only [List.set]
      refine m179_n hc hs6 ha hw hn (16 - a) 0 (by omega) ?_
      rw [Nat.add_zero]
      have hz := hn (re (bt (lkd g B)) (16 - a) a - a) (by omega)
      rw [show (a : Int) + ((re (bt (lkd g B)) (16 - a) a - a : Nat) : Int) = (re (bt (lkd g B)) (16 - a) a : Nat) by omega] at hz
      generalize re (bt (lkd g B)) (16 - a) a = R at hy hr hp hz ⊢
      refine R_iload (q := 233) rfl rfl rfl ?_
      refine R_if_eq (q := 236) (t := 283) rfl rfl rfl (fun h233 => absurd h233 (by decide)) (fun h233 => ?_)
      refine R_iload (q := 238) rfl rfl rfl ?_
      refine R_iload_n (q := 239) rfl rfl rfl ?_
      refine R_icmp_ge (q := 242) (t := 283) rfl rfl rfl (fun h239 => ?_) (fun h239 => ?_)
      · first
          | (have K := K1 (some (.int (nI 1))) (some (.int (nI (R - a)))) (by rw [hfe]; omega)
             rw [hfe] at K
             exact K)
          | (refine K0 _ _ ?_
             rw [hy]
             refine if_neg (fun q => ?_)
             first
               | exact nI_ge q.1 (by omega) h239
               | (have q0 := zb_eq0.mp h244
                  have q1 := zb_eq0.mp h268
                  rcases q.2 with z | z
                  · rw [z] at q0; exact absurd q0 (by decide)
                  · rw [z] at q1; exact absurd q1 (by decide)))
      · refine R_iload (q := 244) rfl rfl rfl ?_
        refine R_if_ne (q := 247) (t := 271) rfl rfl rfl (fun h244 => ?_) (fun h244 => ?_)
        · have hfe : flen (lkd g B) a g w = R - a := by
            rw [hy]
            refine if_pos ⟨?_, ?_⟩
            · exact Nat.lt_of_not_le (fun q => h239 (nI_le q (by omega)))
            · first
                | exact Or.inl (by have q := zb_ne0.mp h244; revert q; cases g <;> decide)
                | exact Or.inr (zb_ne0.mp h268)
          have hcl := hcc (by rw [hfe]; omega)
          refine R_aload_n (q := 272) rfl rfl rfl ?_
          refine R_iload (q := 274) rfl rfl rfl ?_
          refine R_iload (q := 276) rfl rfl rfl ?_
          refine R_iload (q := 278) rfl rfl rfl ?_
          refine R_iload (q := 280) rfl rfl rfl ?_
          refine R_callv4 (q := 283) rfl rfl rfl rfl md_73 (Nat.le_of_ble_eq_true rfl) rfl ?_
          refine R_mono (m178 hI hcl) (fun v280 M280 hr280 => ?_)
          obtain ⟨rfl, hm280⟩ := hr280
          rw [hm280]
          dsimp only [Option.toList, List.cons_append, List.nil_append]
          first
            | (have K := K1 (some (.int (nI 1))) (some (.int (nI (R - a)))) (by rw [hfe]; omega)
               rw [hfe] at K
               exact K)
            | (refine K0 _ _ ?_
               rw [hy]
               refine if_neg (fun q => ?_)
               first
                 | exact nI_ge q.1 (by omega) h239
                 | (have q0 := zb_eq0.mp h244
                    have q1 := zb_eq0.mp h268
                    rcases q.2 with z | z
                    · rw [z] at q0; exact absurd q0 (by decide)
                    · rw [z] at q1; exact absurd q1 (by decide)))
        · refine R_aload_n (q := 248) rfl rfl rfl ?_
          refine R_iload_n (q := 249) rfl rfl rfl ?_
          refine R_iload (q := 251) rfl rfl rfl ?_
          refine R_iload (q := 253) rfl rfl rfl ?_
          refine R_iload (q := 255) rfl rfl rfl ?_
          refine R_imul (q := 256) rfl rfl ?_
          refine R_iadd (q := 257) rfl rfl ?_
          refine R_iload (q := 259) rfl rfl rfl ?_
          refine R_iload (q := 261) rfl rfl rfl ?_
          refine R_iload (q := 263) rfl rfl rfl ?_
          refine R_imul (q := 264) rfl rfl ?_
          refine R_iadd (q := 265) rfl rfl ?_
          refine R_callv3 (q := 268) rfl rfl rfl rfl md_73 (Nat.le_of_ble_eq_true rfl) rfl ?_
          refine R_mono (m149 hc hs6) (fun v265 M265 hr265 => ?_)
          obtain ⟨rfl, hm265⟩ := hr265
          rw [hm265]
          dsimp only [Option.toList, List.cons_append, List.nil_append]
          rw [hz]
          refine R_if_eq (q := 271) (t := 283) rfl rfl rfl (fun h268 => ?_) (fun h268 => ?_)
          · first
              | (have K := K1 (some (.int (nI 1))) (some (.int (nI (R - a)))) (by rw [hfe]; omega)
                 rw [hfe] at K
                 exact K)
              | (refine K0 _ _ ?_
                 rw [hy]
                 refine if_neg (fun q => ?_)
                 first
                   | exact nI_ge q.1 (by omega) h239
                   | (have q0 := zb_eq0.mp h244
                      have q1 := zb_eq0.mp h268
                      rcases q.2 with z | z
                      · rw [z] at q0; exact absurd q0 (by decide)
                      · rw [z] at q1; exact absurd q1 (by decide)))
          · have hfe : flen (lkd g B) a g w = R - a := by
              rw [hy]
              refine if_pos ⟨?_, ?_⟩
              · exact Nat.lt_of_not_le (fun q => h239 (nI_le q (by omega)))
              · first
                  | exact Or.inl (by have q := zb_ne0.mp h244; revert q; cases g <;> decide)
                  | exact Or.inr (zb_ne0.mp h268)
            have hcl := hcc (by rw [hfe]; omega)
            refine R_aload_n (q := 272) rfl rfl rfl ?_
            refine R_iload (q := 274) rfl rfl rfl ?_
            refine R_iload (q := 276) rfl rfl rfl ?_
            refine R_iload (q := 278) rfl rfl rfl ?_
            refine R_iload (q := 280) rfl rfl rfl ?_
            refine R_callv4 (q := 283) rfl rfl rfl rfl md_73 (Nat.le_of_ble_eq_true rfl) rfl ?_
            refine R_mono (m178 hI hcl) (fun v280 M280 hr280 => ?_)
            obtain ⟨rfl, hm280⟩ := hr280
            rw [hm280]
            dsimp only [Option.toList, List.cons_append, List.nil_append]
            first
              | (have K := K1 (some (.int (nI 1))) (some (.int (nI (R - a)))) (by rw [hfe]; omega)
                 rw [hfe] at K
                 exact K)
              | (refine K0 _ _ ?_
                 rw [hy]
                 refine if_neg (fun q => ?_)
                 first
                   | exact nI_ge q.1 (by omega) h239
                   | (have q0 := zb_eq0.mp h244
                      have q1 := zb_eq0.mp h268
                      rcases q.2 with z | z
                      · rw [z] at q0; exact absurd q0 (by decide)
                      · rw [z] at q1; exact absurd q1 (by decide)))
  refine R_aload_n (q := 117) rfl rfl rfl ?_
  refine R_iload_n (q := 118) rfl rfl rfl ?_
  refine R_iload (q := 120) rfl rfl rfl ?_
  refine R_iload (q := 122) rfl rfl rfl ?_
  refine R_callv3 (q := 125) rfl rfl rfl rfl md_73 (Nat.le_of_ble_eq_true rfl) rfl ?_
  refine R_mono (m149 hc hs6) (fun v122 M122 hr122 => ?_)
  obtain ⟨rfl, hm122⟩ := hr122
  rw [hm122]
  dsimp only [Option.toList, List.cons_append, List.nil_append]
  rw [h0]
  refine R_iload (q := 127) rfl rfl rfl ?_
  refine R_icmp_ne (q := 130) (t := 178) rfl rfl rfl (fun h127 => ?_) (fun h127 => ?_)
  · refine R_iconst (q := 179) (v := nI 0) rfl rfl (by decide) ?_
    refine h179 _ ?_
    unfold bgn
    first
      | (cases hq : bt B a <;> cases g <;> first | rfl | exact absurd (by rw [hq]; rfl) h127)
      | (have q1 := zb_inj.mp h127; have q2 := zb_eq0.mp h132; have q3 := zb_ne0.mp h171; rw [q1, q3]; revert q2; cases g <;> decide)
      | (have q1 := zb_inj.mp h127; have q2 := zb_eq0.mp h132; have q3 := zb_eq0.mp h171; rw [q1, q3]; revert q2; cases g <;> decide)
      | (have q1 := zb_inj.mp h127; have q2 := zb_ne0.mp h132; have q3 := zb_ne0.mp h150; rw [q1, q3]; revert q2; cases g <;> decide)
      | (have q1 := zb_inj.mp h127; have q2 := zb_ne0.mp h132; have q3 := zb_eq0.mp h150; rw [q1, q3]; revert q2; cases g <;> decide)
  · refine R_iload (q := 132) rfl rfl rfl ?_
    refine R_if_eq (q := 135) (t := 156) rfl rfl rfl (fun h132 => ?_) (fun h132 => ?_)
    · refine R_aload_n (q := 157) rfl rfl rfl ?_
      refine R_iload_n (q := 158) rfl rfl rfl ?_
      refine R_iload (q := 160) rfl rfl rfl ?_
      refine R_iload (q := 162) rfl rfl rfl ?_
      refine R_isub (q := 163) rfl rfl ?_
      refine R_iload (q := 165) rfl rfl rfl ?_
      refine R_iload (q := 167) rfl rfl rfl ?_
      refine R_isub (q := 168) rfl rfl ?_
      refine R_callv3 (q := 171) rfl rfl rfl rfl md_73 (Nat.le_of_ble_eq_true rfl) rfl ?_
      refine R_mono (m149 hc hs6) (fun v168 M168 hr168 => ?_)
      obtain ⟨rfl, hm168⟩ := hr168
      rw [hm168]
      dsimp only [Option.toList, List.cons_append, List.nil_append]
      rw [h1]
      refine R_if_eq (q := 174) (t := 178) rfl rfl rfl (fun h171 => ?_) (fun h171 => ?_)
      · refine R_iconst (q := 179) (v := nI 0) rfl rfl (by decide) ?_
        refine h179 _ ?_
        unfold bgn
        first
          | (cases hq : bt B a <;> cases g <;> first | rfl | exact absurd (by rw [hq]; rfl) h127)
          | (have q1 := zb_inj.mp h127; have q2 := zb_eq0.mp h132; have q3 := zb_ne0.mp h171; rw [q1, q3]; revert q2; cases g <;> decide)
          | (have q1 := zb_inj.mp h127; have q2 := zb_eq0.mp h132; have q3 := zb_eq0.mp h171; rw [q1, q3]; revert q2; cases g <;> decide)
          | (have q1 := zb_inj.mp h127; have q2 := zb_ne0.mp h132; have q3 := zb_ne0.mp h150; rw [q1, q3]; revert q2; cases g <;> decide)
          | (have q1 := zb_inj.mp h127; have q2 := zb_ne0.mp h132; have q3 := zb_eq0.mp h150; rw [q1, q3]; revert q2; cases g <;> decide)
      · refine R_iconst (q := 175) (v := nI 1) rfl rfl (by decide) ?_
        refine R_goto (t := 179) rfl rfl ?_
        refine h179 _ ?_
        unfold bgn
        first
          | (cases hq : bt B a <;> cases g <;> first | rfl | exact absurd (by rw [hq]; rfl) h127)
          | (have q1 := zb_inj.mp h127; have q2 := zb_eq0.mp h132; have q3 := zb_ne0.mp h171; rw [q1, q3]; revert q2; cases g <;> decide)
          | (have q1 := zb_inj.mp h127; have q2 := zb_eq0.mp h132; have q3 := zb_eq0.mp h171; rw [q1, q3]; revert q2; cases g <;> decide)
          | (have q1 := zb_inj.mp h127; have q2 := zb_ne0.mp h132; have q3 := zb_ne0.mp h150; rw [q1, q3]; revert q2; cases g <;> decide)
          | (have q1 := zb_inj.mp h127; have q2 := zb_ne0.mp h132; have q3 := zb_eq0.mp h150; rw [q1, q3]; revert q2; cases g <;> decide)
    · refine R_aload_n (q := 136) rfl rfl rfl ?_
      refine R_iload_n (q := 137) rfl rfl rfl ?_
      refine R_iload (q := 139) rfl rfl rfl ?_
      refine R_iload (q := 141) rfl rfl rfl ?_
      refine R_isub (q := 142) rfl rfl ?_
      refine R_iload (q := 144) rfl rfl rfl ?_
      refine R_iload (q := 146) rfl rfl rfl ?_
      refine R_isub (q := 147) rfl rfl ?_
      refine R_callv3 (q := 150) rfl rfl rfl rfl md_73 (Nat.le_of_ble_eq_true rfl) rfl ?_
      refine R_mono (m149 hc hs6) (fun v147 M147 hr147 => ?_)
      obtain ⟨rfl, hm147⟩ := hr147
      rw [hm147]
      dsimp only [Option.toList, List.cons_append, List.nil_append]
      rw [h1]
      refine R_if_ne (q := 153) (t := 178) rfl rfl rfl (fun h150 => ?_) (fun h150 => ?_)
      · refine R_iconst (q := 179) (v := nI 0) rfl rfl (by decide) ?_
        refine h179 _ ?_
        unfold bgn
        first
          | (cases hq : bt B a <;> cases g <;> first | rfl | exact absurd (by rw [hq]; rfl) h127)
          | (have q1 := zb_inj.mp h127; have q2 := zb_eq0.mp h132; have q3 := zb_ne0.mp h171; rw [q1, q3]; revert q2; cases g <;> decide)
          | (have q1 := zb_inj.mp h127; have q2 := zb_eq0.mp h132; have q3 := zb_eq0.mp h171; rw [q1, q3]; revert q2; cases g <;> decide)
          | (have q1 := zb_inj.mp h127; have q2 := zb_ne0.mp h132; have q3 := zb_ne0.mp h150; rw [q1, q3]; revert q2; cases g <;> decide)
          | (have q1 := zb_inj.mp h127; have q2 := zb_ne0.mp h132; have q3 := zb_eq0.mp h150; rw [q1, q3]; revert q2; cases g <;> decide)
      · refine R_goto (t := 174) rfl rfl ?_
        refine R_iconst (q := 175) (v := nI 1) rfl rfl (by decide) ?_
        refine R_goto (t := 179) rfl rfl ?_
        refine h179 _ ?_
        unfold bgn
        first
          | (cases hq : bt B a <;> cases g <;> first | rfl | exact absurd (by rw [hq]; rfl) h127)
          | (have q1 := zb_inj.mp h127; have q2 := zb_eq0.mp h132; have q3 := zb_ne0.mp h171; rw [q1, q3]; revert q2; cases g <;> decide)
          | (have q1 := zb_inj.mp h127; have q2 := zb_eq0.mp h132; have q3 := zb_eq0.mp h171; rw [q1, q3]; revert q2; cases g <;> decide)
          | (have q1 := zb_inj.mp h127; have q2 := zb_ne0.mp h132; have q3 := zb_ne0.mp h150; rw [q1, q3]; revert q2; cases g <;> decide)
          | (have q1 := zb_inj.mp h127; have q2 := zb_ne0.mp h132; have q3 := zb_eq0.mp h150; rw [q1, q3]; revert q2; cases g <;> decide)
set_option maxRecDepth 8000 in
theorem m179_lp {s w : Nat} {g : Bool} {kd0 : Int32} (hc : CRl A sh) (hs6 : s < 6) (hw : w ≤ 16) : ∀ (j k : Nat) (st : IS) (F : Nat → Int32) (t6 t7 t8 t9 t10 t11 t12 t13 : Option Value), k + j = 512 → CB (sh s) g k st → IRF F st → mm_R S (d + 2) 179 49 [some (.ref 73), some (.int (nI s)), some (.int kd0), some (.int (nI w)), some (.int (zb (!g))), some (.int (nI k)), t6, t7, t8, t9, t10, t11, t12, t13] [] (mdm M (upa A 108 F) (upd I 46 (nI st.1))) (fun v M' => ∃ F', v = some (.int (nI (stl (sh s) g w j k st).1)) ∧ M' = mdm M (upa A 108 F') (upd I 46 (nI (stl (sh s) g w j k st).1)) ∧ IRF F' (stl (sh s) g w j k st)) := by
  intro j
  induction j with
  | zero =>
    intro k st F t6 t7 t8 t9 t10 t11 t12 t13 hk hcb hF
    have hk5 : k = 512 := by omega
    subst hk5
    refine R_iload (q := 51) rfl rfl rfl ?_
    refine R_sipush (q := 54) (v := nI 512) rfl rfl (by decide) ?_
    refine R_icmp_ge (q := 57) (t := 289) rfl rfl rfl (fun h54 => ?_) (fun h54 => absurd (nI_le (by omega) (by omega)) h54)
    refine R_aload_n (q := 290) rfl rfl rfl ?_
    refine R_getf (q := 293) rfl rfl rfl md_73 rfl ?_
    refine R_ireturn rfl rfl ?_
    exact ⟨F, rfl, rfl, hF⟩
  | succ j ih =>
    intro k st F t6 t7 t8 t9 t10 t11 t12 t13 hk hcb hF
    have rr1 : CRl (upa A 108 F) sh := hc
    have hnext : ∀ (st' : IS) (F' : Nat → Int32) (t6 t7 t8 t9 t10 t11 t12 t13 : Option Value), st' = stp (sh s) g w k st → IRF F' st' → mm_R S (d + 2) 179 283 [some (.ref 73), some (.int (nI s)), some (.int kd0), some (.int (nI w)), some (.int (zb (!g))), some (.int (nI k)), t6, t7, t8, t9, t10, t11, t12, t13] [] (mdm M (upa A 108 F') (upd I 46 (nI st'.1))) (fun v M' => ∃ F', v = some (.int (nI (stl (sh s) g w (j + 1) k st).1)) ∧ M' = mdm M (upa A 108 F') (upd I 46 (nI (stl (sh s) g w (j + 1) k st).1)) ∧ IRF F' (stl (sh s) g w (j + 1) k st)) := by
      intro st' F' t6 t7 t8 t9 t10 t11 t12 t13 hst hF' 
      refine R_iinc (q := 286) rfl rfl rfl (nI_i1 k) rfl ?_
      dsimp only [List.set]
      refine R_goto (t := 49) rfl rfl ?_
      subst hst
      exact ih (k + 1) _ F' _ _ _ _ _ _ _ _ (by omega) (CB_s hcb (by omega)) hF'
    have hX : ∀ (xx yy : Nat), xx < 16 → yy < 16 → (∀ n, Pk k st n = fapp st (nI xx) (nI yy) (nI n) (nI (k / 256))) → (k / 256 = 0 ∧ xx = k % 16 ∧ yy = k / 16 % 16 ∨ k / 256 = 1 ∧ xx = k / 16 % 16 ∧ yy = k % 16) → mm_R S (d + 2) 179 116 [some (.ref 73), some (.int (nI s)), some (.int kd0), some (.int (nI w)), some (.int (zb (!g))), some (.int (nI k)), some (.int (nI (k / 256))), some (.int (nI (k / 16 % 16))), some (.int (nI (k % 16))), some (.int (nI xx)), some (.int (nI yy)), some (.int (nI 1 - nI (k / 256))), t12, t13] [] (mdm M (upa A 108 F) (upd I 46 (nI st.1))) (fun v M' => ∃ F', v = some (.int (nI (stl (sh s) g w (j + 1) k st).1)) ∧ M' = mdm M (upa A 108 F') (upd I 46 (nI (stl (sh s) g w (j + 1) k st).1)) ∧ IRF F' (stl (sh s) g w (j + 1) k st)) := by
      intro xx yy hxx hyy hPk hcs
      have eD : (nI 1 - nI (k / 256)).toInt = 1 - ((k / 256 : Nat) : Int) := pk_sub_toInt (by omega) (by omega)
      have eU : (nI (k / 256)).toInt = ((k / 256 : Nat) : Int) := i_n _ (by omega)
      have eX : (nI xx).toInt = (xx : Int) := i_n _ (by omega)
      have eY : (nI yy).toInt = (yy : Int) := i_n _ (by omega)
      refine m179_st (B := lBu (sh s) k) (a := k % 16) (c := st.1) rr1 hs6 (by omega) hw ?_ ?_ ?_ rfl (fun hf => CB_lt hcb (by omega) hf) ?_ ?_
      · refine hs_ln (by omega) ?_
        rw [eX, eY]
        omega
      · refine hs_ln (by omega) ?_
        rw [i_sub (a := nI xx) (b := nI 1 - nI (k / 256)) (by rw [eX, eD]; omega), i_sub (a := nI yy) (b := nI (k / 256)) (by rw [eY, eU]; omega), eX, eY, eD, eU]
        omega
      · intro n hn
        refine hs_ln (by omega) ?_
        rcases hcs with ⟨c1, c2, c3⟩ | ⟨c1, c2, c3⟩
        · rw [c1, show nI 1 - nI 0 = nI 1 from rfl, show nI n * nI 1 = nI n from Int32.mul_one _, show nI n * nI 0 = nI 0 from Int32.mul_zero, nI_add, nI_add, i_n _ (by omega), i_n _ (by omega)]
          omega
        · rw [c1, show nI 1 - nI 1 = nI 0 from rfl, show nI n * nI 1 = nI n from Int32.mul_one _, show nI n * nI 0 = nI 0 from Int32.mul_zero, nI_add, nI_add, i_n _ (by omega), i_n _ (by omega)]
          omega
      · intro t12 t13 hf
        refine hnext st F _ _ _ _ _ _ _ _ ?_ hF
        unfold stp
        rw [if_neg (by omega)]
      · intro t12 t13 hf
        have hlt := CB_lt hcb (by omega) hf
        have hle : flen (lkd g (lBu (sh s) k)) (k % 16) g w ≤ 16 := fl_le (by omega)
        have h0 := hnext (stp (sh s) g w k st) (up4 F (4 * st.1) (nI xx) (nI yy) (nI (flen (lkd g (lBu (sh s) k)) (k % 16) g w)) (nI (k / 256))) (some (.int (nI (k / 256)))) (some (.int (nI (k / 16 % 16)))) (some (.int (nI (k % 16)))) (some (.int (nI xx))) (some (.int (nI yy))) (some (.int (nI 1 - nI (k / 256)))) t12 t13 rfl (by
          unfold stp
          rw [if_pos hf, hPk]
          exact IRF_app hF hlt (by omega) (by omega) (by omega) (by omega))
        have e5 : (stp (sh s) g w k st).1 = st.1 + 1 := by
          unfold stp
          rw [if_pos hf, hPk]
          unfold fapp
          rw [if_pos hlt]
        rw [e5] at h0
        rw [upa_u, upa_e, show upd (upd I 46 (nI st.1)) 46 (nI (st.1 + 1)) = upd I 46 (nI (st.1 + 1)) from upd_uu]
        exact h0
    refine R_iload (q := 51) rfl rfl rfl ?_
    refine R_sipush (q := 54) (v := nI 512) rfl rfl (by decide) ?_
    refine R_icmp_ge (q := 57) (t := 289) rfl rfl rfl (fun h54 => absurd h54 (nI_ge (by omega) (by omega))) (fun h54 => ?_)
    refine R_iload (q := 59) rfl rfl rfl ?_
    refine R_sipush (q := 62) (v := nI 256) rfl rfl (by decide) ?_
    refine R_idiv (q := 63) rfl rfl (by decide) ?_
    rw [pk_div (by omega) (by omega) (by omega)]
    refine R_istore (q := 65) rfl rfl (Nat.le_of_ble_eq_true rfl) rfl ?_
    dsimp only [List.set]
    refine R_iload (q := 67) rfl rfl rfl ?_
    refine R_bipush (q := 69) (v := nI 16) rfl rfl (by decide) ?_
    refine R_idiv (q := 70) rfl rfl (by decide) ?_
    rw [pk_div (by omega) (by omega) (by omega)]
    refine R_bipush (q := 72) (v := nI 16) rfl rfl (by decide) ?_
    refine R_irem (q := 73) rfl rfl (by decide) ?_
    rw [pk_rem (by omega) (by omega) (by omega)]
    refine R_istore (q := 75) rfl rfl (Nat.le_of_ble_eq_true rfl) rfl ?_
    dsimp only [List.set]
    refine R_iload (q := 77) rfl rfl rfl ?_
    refine R_bipush (q := 79) (v := nI 16) rfl rfl (by decide) ?_
    refine R_irem (q := 80) rfl rfl (by decide) ?_
    rw [pk_rem (by omega) (by omega) (by omega)]
    refine R_istore (q := 82) rfl rfl (Nat.le_of_ble_eq_true rfl) rfl ?_
    dsimp only [List.set]
    refine R_iload (q := 84) rfl rfl rfl ?_
    refine R_if_ne (q := 87) (t := 92) rfl rfl rfl (fun h84 => ?_) (fun h84 => ?_)
    · refine R_iload (q := 94) rfl rfl rfl ?_
      refine R_istore (q := 96) rfl rfl (Nat.le_of_ble_eq_true rfl) rfl ?_
      dsimp only [List.set]
      refine R_iload (q := 98) rfl rfl rfl ?_
      refine R_if_ne (q := 101) (t := 106) rfl rfl rfl (fun h98 => ?_) (fun h98 => ?_)
      · refine R_iload (q := 108) rfl rfl rfl ?_
        refine R_istore (q := 110) rfl rfl (Nat.le_of_ble_eq_true rfl) rfl ?_
        dsimp only [List.set]
        refine R_iconst (q := 111) (v := nI 1) rfl rfl (by decide) ?_
        refine R_iload (q := 113) rfl rfl rfl ?_
        refine R_isub (q := 114) rfl rfl ?_
        refine R_istore (q := 116) rfl rfl (Nat.le_of_ble_eq_true rfl) rfl ?_
        dsimp only [List.set]
        first
          | (have h84' := nI_0_of h84
             refine hX (k % 16) (k / 16 % 16) (by omega) (by omega) (fun n => ?_) (Or.inl ⟨h84', rfl, rfl⟩)
             unfold Pk Plev
             rw [if_pos h84', h84'])
          | (have h84' : ¬ k / 256 = 0 := fun q => h84 (by rw [q]; rfl)
             refine hX (k / 16 % 16) (k % 16) (by omega) (by omega) (fun n => ?_) (Or.inr ⟨by omega, rfl, rfl⟩)
             unfold Pk Pupr
             rw [if_neg h84', show k / 256 = 1 by omega])
          | exact absurd h84 h98
          | exact absurd h98 h84
      · refine R_iload (q := 103) rfl rfl rfl ?_
        refine R_goto (t := 108) rfl rfl ?_
        refine R_istore (q := 110) rfl rfl (Nat.le_of_ble_eq_true rfl) rfl ?_
        dsimp only [List.set]
        refine R_iconst (q := 111) (v := nI 1) rfl rfl (by decide) ?_
        refine R_iload (q := 113) rfl rfl rfl ?_
        refine R_isub (q := 114) rfl rfl ?_
        refine R_istore (q := 116) rfl rfl (Nat.le_of_ble_eq_true rfl) rfl ?_
        dsimp only [List.set]
        first
          | (have h84' := nI_0_of h84
             refine hX (k % 16) (k / 16 % 16) (by omega) (by omega) (fun n => ?_) (Or.inl ⟨h84', rfl, rfl⟩)
             unfold Pk Plev
             rw [if_pos h84', h84'])
          | (have h84' : ¬ k / 256 = 0 := fun q => h84 (by rw [q]; rfl)
             refine hX (k / 16 % 16) (k % 16) (by omega) (by omega) (fun n => ?_) (Or.inr ⟨by omega, rfl, rfl⟩)
             unfold Pk Pupr
             rw [if_neg h84', show k / 256 = 1 by omega])
          | exact absurd h84 h98
          | exact absurd h98 h84
    · refine R_iload (q := 89) rfl rfl rfl ?_
      refine R_goto (t := 94) rfl rfl ?_
      refine R_istore (q := 96) rfl rfl (Nat.le_of_ble_eq_true rfl) rfl ?_
      dsimp only [List.set]
      refine R_iload (q := 98) rfl rfl rfl ?_
      refine R_if_ne (q := 101) (t := 106) rfl rfl rfl (fun h98 => ?_) (fun h98 => ?_)
      · refine R_iload (q := 108) rfl rfl rfl ?_
        refine R_istore (q := 110) rfl rfl (Nat.le_of_ble_eq_true rfl) rfl ?_
        dsimp only [List.set]
        refine R_iconst (q := 111) (v := nI 1) rfl rfl (by decide) ?_
        refine R_iload (q := 113) rfl rfl rfl ?_
        refine R_isub (q := 114) rfl rfl ?_
        refine R_istore (q := 116) rfl rfl (Nat.le_of_ble_eq_true rfl) rfl ?_
        dsimp only [List.set]
        first
          | (have h84' := nI_0_of h84
             refine hX (k % 16) (k / 16 % 16) (by omega) (by omega) (fun n => ?_) (Or.inl ⟨h84', rfl, rfl⟩)
             unfold Pk Plev
             rw [if_pos h84', h84'])
          | (have h84' : ¬ k / 256 = 0 := fun q => h84 (by rw [q]; rfl)
             refine hX (k / 16 % 16) (k % 16) (by omega) (by omega) (fun n => ?_) (Or.inr ⟨by omega, rfl, rfl⟩)
             unfold Pk Pupr
             rw [if_neg h84', show k / 256 = 1 by omega])
          | exact absurd h84 h98
          | exact absurd h98 h84
      · refine R_iload (q := 103) rfl rfl rfl ?_
        refine R_goto (t := 108) rfl rfl ?_
        refine R_istore (q := 110) rfl rfl (Nat.le_of_ble_eq_true rfl) rfl ?_
        dsimp only [List.set]
        refine R_iconst (q := 111) (v := nI 1) rfl rfl (by decide) ?_
        refine R_iload (q := 113) rfl rfl rfl ?_
        refine R_isub (q := 114) rfl rfl ?_
        refine R_istore (q := 116) rfl rfl (Nat.le_of_ble_eq_true rfl) rfl ?_
        dsimp only [List.set]
        first
          | (have h84' := nI_0_of h84
             refine hX (k % 16) (k / 16 % 16) (by omega) (by omega) (fun n => ?_) (Or.inl ⟨h84', rfl, rfl⟩)
             unfold Pk Plev
             rw [if_pos h84', h84'])
          | (have h84' : ¬ k / 256 = 0 := fun q => h84 (by rw [q]; rfl)
             refine hX (k / 16 % 16) (k % 16) (by omega) (by omega) (fun n => ?_) (Or.inr ⟨by omega, rfl, rfl⟩)
             unfold Pk Pupr
             rw [if_neg h84', show k / 256 = 1 by omega])
          | exact absurd h84 h98
          | exact absurd h98 h84
set_option maxRecDepth 8000 in
theorem m179 {s kd0 w : Int32} (hV : VS sh o l pi fa tp) (h : MRl A I sh o l pi fa tp) : mm_R S (d + 2) 179 0 (mm_en 179 [.ref 73, .int s, .int kd0, .int w]) [] (mdm M A I) (fun v M' => FM (mdm M A I) M' ∧ (((shp s ∧ btw kd0 0 1) ∧ btw w 1 16) ∧ v = some (.int (nI (ffall (sh (sn s)) (decide (kd0 = nI 1)) (sn w) fa.2).1)) ∧ MI M' sh o l pi (ffall (sh (sn s)) (decide (kd0 = nI 1)) (sn w) fa.2) tp ∨ ¬ ((shp s ∧ btw kd0 0 1) ∧ btw w 1 16) ∧ v = some (.int (-1000)) ∧ MI M' sh o l pi fa tp)) := by
  show mm_R S (d + 2) 179 0 [some (.ref 73), some (.int s), some (.int kd0), some (.int w), none, none, none, none, none, none, none, none, none, none] [] (mdm M A I) _
  obtain ⟨r1, r2, r3, r4, r5, r6, r7, r8⟩ := id h
  refine R_iload_n (q := 1) rfl rfl rfl ?_
  refine R_calls1 (q := 4) rfl rfl rfl rfl (Nat.le_of_ble_eq_true rfl) rfl ?_
  refine R_mono (m148) (fun v1 M1 hr1 => ?_)
  obtain ⟨rfl, hm1⟩ := hr1
  rw [hm1]
  dsimp only [Option.toList, List.cons_append, List.nil_append]
  refine R_if_eq (q := 7) (t := 26) rfl rfl rfl (fun h4 => ?_) (fun h4 => ?_)
  · refine R_sipush (q := 29) (v := (-1000)) rfl rfl (by decide) ?_
    refine R_ireturn rfl rfl ?_
    first
      | exact ⟨FM_md, Or.inr ⟨(fun hP => absurd hP.1.1 (of_decide_eq_false (zb_eq0.mp h4))), rfl, MI_md h⟩⟩
      | exact ⟨FM_md, Or.inr ⟨(fun hP => of_decide_eq_false (zb_eq0.mp h13) (by have q1 := hP.1.2; rw [ik_0, ik_1]; omega)), rfl, MI_md h⟩⟩
      | exact ⟨FM_md, Or.inr ⟨(fun hP => of_decide_eq_false (zb_eq0.mp h23) (by have q1 := hP.2; rw [ik_1, ik_16]; omega)), rfl, MI_md h⟩⟩
  · refine R_iload_n (q := 8) rfl rfl rfl ?_
    refine R_iconst (q := 9) (v := nI 0) rfl rfl (by decide) ?_
    refine R_iconst (q := 10) (v := nI 1) rfl rfl (by decide) ?_
    refine R_calls3 (q := 13) rfl rfl rfl rfl (Nat.le_of_ble_eq_true rfl) rfl ?_
    refine R_mono (m147) (fun v10 M10 hr10 => ?_)
    obtain ⟨rfl, hm10⟩ := hr10
    rw [hm10]
    dsimp only [Option.toList, List.cons_append, List.nil_append]
    refine R_if_eq (q := 16) (t := 26) rfl rfl rfl (fun h13 => ?_) (fun h13 => ?_)
    · refine R_sipush (q := 29) (v := (-1000)) rfl rfl (by decide) ?_
      refine R_ireturn rfl rfl ?_
      first
        | exact ⟨FM_md, Or.inr ⟨(fun hP => absurd hP.1.1 (of_decide_eq_false (zb_eq0.mp h4))), rfl, MI_md h⟩⟩
        | exact ⟨FM_md, Or.inr ⟨(fun hP => of_decide_eq_false (zb_eq0.mp h13) (by have q1 := hP.1.2; rw [ik_0, ik_1]; omega)), rfl, MI_md h⟩⟩
        | exact ⟨FM_md, Or.inr ⟨(fun hP => of_decide_eq_false (zb_eq0.mp h23) (by have q1 := hP.2; rw [ik_1, ik_16]; omega)), rfl, MI_md h⟩⟩
    · refine R_iload_n (q := 17) rfl rfl rfl ?_
      refine R_iconst (q := 18) (v := nI 1) rfl rfl (by decide) ?_
      refine R_bipush (q := 20) (v := nI 16) rfl rfl (by decide) ?_
      refine R_calls3 (q := 23) rfl rfl rfl rfl (Nat.le_of_ble_eq_true rfl) rfl ?_
      refine R_mono (m147) (fun v20 M20 hr20 => ?_)
      obtain ⟨rfl, hm20⟩ := hr20
      rw [hm20]
      dsimp only [Option.toList, List.cons_append, List.nil_append]
      refine R_if_ne (q := 26) (t := 30) rfl rfl rfl (fun h23 => ?_) (fun h23 => ?_)
      · have hP : (shp s ∧ btw kd0 0 1) ∧ btw w 1 16 := by
          have g1 := of_decide_eq_true (zb_ne0.mp h13)
          have g2 := of_decide_eq_true (zb_ne0.mp h23)
          rw [ik_0, ik_1] at g1
          rw [ik_1, ik_16] at g2
          exact ⟨⟨of_decide_eq_true (zb_ne0.mp h4), g1⟩, g2⟩
        obtain ⟨k, hk, rfl⟩ := i_ix (a := s) 6 (by decide) hP.1.1.1 hP.1.1.2
        obtain ⟨w, hw, rfl⟩ := i_ix (a := w) 17 (by decide) (by have := hP.2.1; omega) (by have := hP.2.2; omega)
        rw [show sn (nI k) = k from cl_nI (by omega), show sn (nI w) = w from cl_nI (by omega)]
        have h39 : ∀ v : Int32, v = zb (!(decide (kd0 = nI 1))) → mm_R S (d + 2) 179 39 [some (.ref 73), some (.int (nI k)), some (.int kd0), some (.int (nI w)), none, none, none, none, none, none, none, none, none, none] [.int v] (mdm M A I) (fun v M' => FM (mdm M A I) M' ∧ (((shp (nI k) ∧ btw kd0 0 1) ∧ btw (nI w) 1 16) ∧ v = some (.int (nI (ffall (sh k) (decide (kd0 = nI 1)) w fa.2).1)) ∧ MI M' sh o l pi (ffall (sh k) (decide (kd0 = nI 1)) w fa.2) tp ∨ ¬ ((shp (nI k) ∧ btw kd0 0 1) ∧ btw (nI w) 1 16) ∧ v = some (.int (-1000)) ∧ MI M' sh o l pi fa tp)) := by
          intro v hv
          rw [hv]
          refine R_istore (q := 41) rfl rfl (Nat.le_of_ble_eq_true rfl) rfl ?_
          dsimp only [List.set]
          refine R_aload_n (q := 42) rfl rfl rfl ?_
          refine R_iconst (q := 43) (v := nI 0) rfl rfl (by decide) ?_
          refine R_putf (q := 46) rfl rfl rfl md_73 (Nat.le_of_ble_eq_true rfl) rfl (fun hf => absurd hf (by decide)) rfl ?_
          dsimp only [List.set]
          rw [md_f46]
          refine R_iconst (q := 47) (v := nI 0) rfl rfl (by decide) ?_
          refine R_istore (q := 49) rfl rfl (Nat.le_of_ble_eq_true rfl) rfl ?_
          dsimp only [List.set]
          have h0 := m179_lp (M := M) (A := A) (I := I) (S := S) (d := d) (kd0 := kd0) (g := decide (kd0 = nI 1)) (s := k) (w := w) r1 hk (by omega) 512 0 (0, fa.2) (A 108) none none none none none none none none (by omega) (by show (0 : Nat) ≤ _; omega) (fun k f hk hf => absurd hk (Nat.not_lt_zero _))
          rw [upa_s, stl_all] at h0
          refine R_mono h0 (fun v M' hr => ?_)
          obtain ⟨F, rfl, rfl, hF⟩ := hr
          exact ⟨FM_md, Or.inl ⟨hP, rfl, MI_md ⟨r1, r2, r3, r4, r5, ⟨rfl, hF⟩, r7, r8⟩⟩⟩
        refine R_iload_n (q := 31) rfl rfl rfl ?_
        refine R_if_ne (q := 34) (t := 38) rfl rfl rfl (fun h31 => ?_) (fun h31 => ?_)
        · refine R_iconst (q := 39) (v := nI 0) rfl rfl (by decide) ?_
          refine h39 _ ?_
          first
            | (rw [decide_eq_false (fun q => absurd (q.symm.trans h31) (by decide))]; rfl)
            | (have q : kd0.toInt = 1 := by
                 have q1 := hP.1.2.1
                 have q2 := hP.1.2.2
                 have q3 : ¬ kd0.toInt = 0 := fun z => h31 ((i_eq _ _).mpr z)
                 omega
               rw [decide_eq_true ((i_eq _ _).mpr q)]; rfl)
        · refine R_iconst (q := 35) (v := nI 1) rfl rfl (by decide) ?_
          refine R_goto (t := 39) rfl rfl ?_
          refine h39 _ ?_
          first
            | (rw [decide_eq_false (fun q => absurd (q.symm.trans h31) (by decide))]; rfl)
            | (have q : kd0.toInt = 1 := by
                 have q1 := hP.1.2.1
                 have q2 := hP.1.2.2
                 have q3 : ¬ kd0.toInt = 0 := fun z => h31 ((i_eq _ _).mpr z)
                 omega
               rw [decide_eq_true ((i_eq _ _).mpr q)]; rfl)
      · refine R_sipush (q := 29) (v := (-1000)) rfl rfl (by decide) ?_
        refine R_ireturn rfl rfl ?_
        first
          | exact ⟨FM_md, Or.inr ⟨(fun hP => absurd hP.1.1 (of_decide_eq_false (zb_eq0.mp h4))), rfl, MI_md h⟩⟩
          | exact ⟨FM_md, Or.inr ⟨(fun hP => of_decide_eq_false (zb_eq0.mp h13) (by have q1 := hP.1.2; rw [ik_0, ik_1]; omega)), rfl, MI_md h⟩⟩
          | exact ⟨FM_md, Or.inr ⟨(fun hP => of_decide_eq_false (zb_eq0.mp h23) (by have q1 := hP.2; rw [ik_1, ik_16]; omega)), rfl, MI_md h⟩⟩
end P49
