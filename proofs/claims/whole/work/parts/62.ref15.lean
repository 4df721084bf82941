/-! ===== the reference's own calls, XV: look ===== -/
theorem hZ_lo {f : Nat → Int32} {x y : Int} (h : x < 0 ∨ 16 ≤ x ∨ y < 0 ∨ 16 ≤ y) : hZ f x y = false := by
  unfold hZ
  rw [decide_eq_false (by omega), Bool.false_and]
theorem hZ_n {f : Nat → Int32} {x y : Nat} (hx : x < 16) (hy : y < 16) : hZ f x y = bt (f y) x := by
  unfold hZ
  rw [decide_eq_true (by omega), Bool.true_and]
  rfl
theorem crn_rim {f : Nat → Int32} {x y : Nat} (h : x = 0 ∨ x = 16 ∨ y = 0 ∨ y = 16) : crn f x y = false := by
  unfold crn
  refine decide_eq_false ?_
  have hb2 : ∀ b, b2 b ≤ 1 := fun b => by cases b <;> decide
  rcases h with rfl | rfl | rfl | rfl
  · rw [hZ_lo (x := ((0 : Nat) : Int) - 1) (y := y) (by omega), hZ_lo (x := ((0 : Nat) : Int) - 1) (y := (y : Int) - 1) (by omega)]
    have h1 := hb2 (hZ f ((0 : Nat) : Int) y)
    have h2 := hb2 (hZ f ((0 : Nat) : Int) ((y : Int) - 1))
    have h3 : b2 false = 0 := rfl
    omega
  · rw [hZ_lo (x := ((16 : Nat) : Int)) (y := y) (by omega), hZ_lo (x := ((16 : Nat) : Int)) (y := (y : Int) - 1) (by omega)]
    have h1 := hb2 (hZ f (((16 : Nat) : Int) - 1) y)
    have h2 := hb2 (hZ f (((16 : Nat) : Int) - 1) ((y : Int) - 1))
    have h3 : b2 false = 0 := rfl
    omega
  · rw [hZ_lo (x := x) (y := ((0 : Nat) : Int) - 1) (by omega), hZ_lo (x := (x : Int) - 1) (y := ((0 : Nat) : Int) - 1) (by omega)]
    have h1 := hb2 (hZ f x ((0 : Nat) : Int))
    have h2 := hb2 (hZ f ((x : Int) - 1) ((0 : Nat) : Int))
    have h3 : b2 false = 0 := rfl
    omega
  · rw [hZ_lo (x := x) (y := ((16 : Nat) : Int)) (by omega), hZ_lo (x := (x : Int) - 1) (y := ((16 : Nat) : Int)) (by omega)]
    have h1 := hb2 (hZ f x (((16 : Nat) : Int) - 1))
    have h2 := hb2 (hZ f ((x : Int) - 1) (((16 : Nat) : Int) - 1))
    have h3 : b2 false = 0 := rfl
    omega
theorem corr_rim {f : Nat → Int32} {lv : Bool} {c t : Nat} (h : t = 0 ∨ t = 16 ∨ c = 0 ∨ c = 16) : corr f lv c t = false := by
  unfold corr
  cases lv
  · rw [if_neg (by decide)]; exact crn_rim (by omega)
  · rw [if_pos rfl]; exact crn_rim (by omega)
section P62a
variable {f : Nat → Int32}
theorem rowv_Z (hf : ∀ y, y < 16 → hb (f y)) {Y : Int32} {y : Int} {x : Nat} (hY : Y.toInt = y) : bt (rowv f Y) x = hZ f x y := by
  unfold rowv hZ
  have e : Y.toNatClampNeg = y.toNat := by show Y.toInt.toNat = _; rw [hY]
  rw [hY, e]
  by_cases h : 0 ≤ y ∧ y < 16
  · rw [if_pos h]
    by_cases hx : x < 16
    · rw [decide_eq_true (by omega), Bool.true_and]; rfl
    · rw [decide_eq_false (by omega), Bool.false_and]; exact hf _ (by omega) x (by omega)
  · rw [if_neg h, decide_eq_false (by omega), Bool.false_and]; exact b_0 x
theorem rm_bt (hf : ∀ y, y < 16 → hb (f y)) {x y : Nat} (hy : y ≤ 16) : bt (rm f y) x = hZ f x ((y : Int) - 1) := rowv_Z hf (pk_sub_toInt (by omega) (by omega))
theorem rw_bt (hf : ∀ y, y < 16 → hb (f y)) {x y : Nat} (hy : y ≤ 16) : bt (rowv f (nI y)) x = hZ f x y := rowv_Z hf (i_n _ (by omega))
theorem cornv_bt (hf : ∀ y, y < 16 → hb (f y)) {x y : Nat} (hx : x ≤ 16) (hy : y ≤ 16) : bt (cornv f y) x = crn f x y := by
  unfold cornv crn
  have hsh : ∀ (v : Int32) (z : Int), (∀ t, bt v t = hZ f t z) → bt (v <<< (nI 1 &&& 31)) x = hZ f ((x : Int) - 1) z := by
    intro v z hv
    rw [b_shl 1 (by decide) v (by omega), hv]
    by_cases h0 : 1 ≤ x
    · rw [decide_eq_true h0, Bool.true_and, show ((x - 1 : Nat) : Int) = (x : Int) - 1 by omega]
    · rw [decide_eq_false h0, Bool.false_and, hZ_lo (by omega)]
  rw [b_or, b_and, b_and, b_xor, b_and, b_and, b_xor, hsh _ _ (fun t => rm_bt hf hy), hsh _ _ (fun t => rw_bt hf hy), rm_bt hf hy, rw_bt hf hy]
  cases hZ f x y <;> cases hZ f ((x : Int) - 1) y <;> cases hZ f x ((y : Int) - 1) <;> cases hZ f ((x : Int) - 1) ((y : Int) - 1) <;> decide
theorem cornv_hb (hf : ∀ y, y < 16 → hb (f y)) {y : Nat} (hy : y ≤ 16) : hb (cornv f y) := by
  intro i hi
  unfold cornv
  have h1 : bt (rm f y) i = false := by rw [rm_bt hf hy]; exact hZ_lo (by omega)
  have h2 : bt (rowv f (nI y)) i = false := by rw [rw_bt hf hy]; exact hZ_lo (by omega)
  rw [b_or, b_and, b_and, b_and, b_and, h1, h2]
  simp
theorem inL_bt (hf : ∀ y, y < 16 → hb (f y)) {y t : Nat} (hy : y ≤ 16) : bt (rm f y &&& rowv f (nI y)) t = innr f true y t := by
  unfold innr
  rw [if_pos rfl, b_and, rm_bt hf hy, rw_bt hf hy, Bool.and_comm]
theorem inU_bt {x t : Nat} (hx : 1 ≤ x ∧ x < 16) (ht : t < 16) : bt (colv f (x - 1) 16 &&& colv f x 16) t = innr f false x t := by
  unfold innr
  rw [if_neg (by decide), b_and, colv_bt (by omega) 16 (by omega) t (by omega), colv_bt (by omega) 16 (by omega) t (by omega), decide_eq_true ht, Bool.true_and, Bool.true_and, hZ_n hx.2 ht, show ((x : Int) - 1) = ((x - 1 : Nat) : Int) by omega, hZ_n (by omega) ht, Bool.and_comm]
def REk (f : Nat → Int32) (lv : Bool) (k : Nat) : Nat := re (innr f lv (k / 17)) (16 - k % 17) (k % 17)
abbrev rcP (f : Nat → Int32) (lv : Bool) (k : Nat) : Prop := corr f lv (k / 17) (k % 17) = true ∧ k % 17 < REk f lv k ∧ corr f lv (k / 17) (REk f lv k) = true
def rst1 (f : Nat → Int32) (lv : Bool) (k : Nat) (s : KS) : KS := if rcP f lv k then kp s (nI (k / 17)) (nI (k % 17)) (nI (REk f lv k)) else s
def rlf (f : Nat → Int32) (lv : Bool) : Nat → Nat → KS → KS
  | 0, _, s => s
  | j + 1, k, s => rlf f lv j (k + 1) (rst1 f lv k s)
theorem rlf_add {lv : Bool} : ∀ a b k s, rlf f lv (a + b) k s = rlf f lv b (k + a) (rlf f lv a k s) := by
  intro a
  induction a with
  | zero => intro b k s; rw [Nat.zero_add]; rfl
  | succ a ih =>
    intro b k s
    rw [show a + 1 + b = (a + b) + 1 by omega]
    show rlf f lv (a + b) (k + 1) (rst1 f lv k s) = rlf f lv b (k + (a + 1)) (rlf f lv a (k + 1) (rst1 f lv k s))
    rw [ih, show k + 1 + a = k + (a + 1) by omega]
theorem rlf_no {lv : Bool} : ∀ j k s, (∀ i, i < j → ¬ rcP f lv (k + i)) → rlf f lv j k s = s := by
  intro j
  induction j with
  | zero => intro k s _; rfl
  | succ j ih =>
    intro k s h
    show rlf f lv j (k + 1) (rst1 f lv k s) = s
    have e : rst1 f lv k s = s := if_neg (h 0 (by omega))
    rw [e]
    exact ih (k + 1) s (fun i hi => by have := h (i + 1) (by omega); rw [show k + (i + 1) = k + 1 + i by omega] at this; exact this)
theorem rlf_x {lv : Bool} {Iv : Int32} {C : Nat → Bool} {y : Nat} (hC : ∀ x, x ≤ 16 → C x = corr f lv y x) (hI : ∀ t, t < 16 → bt Iv t = innr f lv y t) : ∀ j x s, x + j ≤ 16 → rlf f lv j (17 * y + x) s = lvx Iv C y j x s := by
  intro j
  induction j with
  | zero => intro x s _; rfl
  | succ j ih =>
    intro x s h
    show rlf f lv j (17 * y + (x + 1)) (rst1 f lv (17 * y + x) s) = lvx Iv C y j (x + 1) _
    rw [ih (x + 1) _ (by omega)]
    congr 1
    have e1 : (17 * y + x) / 17 = y := by omega
    have e2 : (17 * y + x) % 17 = x := by omega
    have e3 : re (bt Iv) (16 - x) x = re (innr f lv y) (16 - x) x := re_cg _ _ (fun t h1 h2 => hI t (by omega))
    have e4 := re_ge (innr f lv y) (16 - x) x
    unfold rst1 rcP REk
    rw [e1, e2, e3, hC x (by omega), hC _ (by omega)]
theorem rlf_all {lv : Bool} {Iv : Nat → Int32} {C : Nat → Nat → Bool} (hC : ∀ y x, 1 ≤ y → y < 16 → x ≤ 16 → C y x = corr f lv y x) (hI : ∀ y t, 1 ≤ y → y < 16 → t < 16 → bt (Iv y) t = innr f lv y t) (s : KS) : rlf f lv 289 0 s = lvy Iv C 15 1 s := by
  have hrow : ∀ y s, 1 ≤ y → y < 16 → rlf f lv 17 (17 * y) s = lvx (Iv y) (C y) y 15 1 s := by
    intro y s h1 h2
    rw [show 17 = 1 + (15 + 1) by decide, rlf_add, rlf_add]
    have e0 : rlf f lv 1 ((1 + (15 + 1)) * y) s = s := rlf_no 1 _ s (fun i hi q => by
      have := q.1
      rw [corr_rim (Or.inl (by omega))] at this
      exact absurd this (by decide))
    rw [e0, show (1 + (15 + 1)) * y + 1 = 17 * y + 1 by omega, rlf_x (fun x hx => hC y x h1 h2 hx) (fun t ht => hI y t h1 h2 ht) 15 1 s (by omega)]
    exact rlf_no 1 _ _ (fun i hi q => by
      have := q.1
      rw [corr_rim (Or.inr (Or.inl (by omega)))] at this
      exact absurd this (by decide))
  have hrows : ∀ j y s, 1 ≤ y → y + j ≤ 16 → rlf f lv (17 * j) (17 * y) s = lvy Iv C j y s := by
    intro j
    induction j with
    | zero => intro y s _ _; rfl
    | succ j ih =>
      intro y s h1 h2
      rw [show 17 * (j + 1) = 17 + 17 * j by omega, rlf_add, hrow y s h1 (by omega), show 17 * y + 17 = 17 * (y + 1) by omega, ih (y + 1) _ (by omega) (by omega)]
      rfl
  rw [show 289 = 17 + (17 * 15 + 17) by decide, rlf_add, rlf_add, rlf_no 17 0 s (fun i hi q => by
    have := q.1
    rw [corr_rim (Or.inr (Or.inr (Or.inl (by omega))))] at this
    exact absurd this (by decide)), show 0 + 17 = 17 * 1 by decide, hrows 15 1 s (by omega) (by omega)]
  exact rlf_no 17 _ _ (fun i hi q => by
    have := q.1
    rw [corr_rim (Or.inr (Or.inr (Or.inr (by omega))))] at this
    exact absurd this (by decide))
theorem rcP_in {lv : Bool} {k : Nat} (h : rcP f lv k) : innr f lv (k / 17) (k % 17) = true ∧ (1 ≤ k % 17 ∧ k % 17 < 16) ∧ ¬ innr f lv (k / 17) (k % 17 - 1) = true := by
  obtain ⟨h1, h2, h3⟩ := h
  have hx : 1 ≤ k % 17 ∧ k % 17 < 16 := by
    refine Classical.byContradiction (fun q => ?_)
    rw [corr_rim (by omega)] at h1
    exact absurd h1 (by decide)
  have hi : innr f lv (k / 17) (k % 17) = true := by
    refine Classical.byContradiction (fun q => ?_)
    unfold REk at h2
    rw [show 16 - k % 17 = (15 - k % 17) + 1 by omega, show re (innr f lv (k / 17)) ((15 - k % 17) + 1) (k % 17) = k % 17 from if_neg q] at h2
    exact absurd h2 (Nat.lt_irrefl _)
  refine ⟨hi, hx, fun q => ?_⟩
  rw [crn_in hx.1 q hi] at h1
  exact absurd h1 (by decide)
def KB (f : Nat → Int32) (lv : Bool) (c0 k c : Nat) : Prop := c ≤ c0 + 8 * (k / 17) + (if 0 < k % 17 ∧ innr f lv (k / 17) (k % 17 - 1) = true then (k % 17 + 1) / 2 else k % 17 / 2)
theorem KB_lt {lv : Bool} {c0 k c : Nat} (h : KB f lv c0 k c) (hk : k < 289) : c ≤ c0 + 136 := by
  unfold KB at h
  split at h <;> omega
theorem KB_s {lv : Bool} {c0 k c : Nat} (h : KB f lv c0 k c) (hk : k < 289) : KB f lv c0 (k + 1) (if rcP f lv k then c + 1 else c) := by
  unfold KB at h ⊢
  by_cases h16 : k % 17 = 16
  · have hno : ¬ rcP f lv k := fun q => by have := (rcP_in q).2.1; omega
    rw [if_neg hno, if_neg (by omega)]
    split at h <;> omega
  · have e1 : (k + 1) / 17 = k / 17 := by omega
    have e2 : (k + 1) % 17 = k % 17 + 1 := by omega
    rw [e1, e2, Nat.add_sub_cancel]
    by_cases hr : rcP f lv k
    · obtain ⟨r1, r2, r3⟩ := rcP_in hr
      rw [if_pos hr, if_pos ⟨by omega, r1⟩]
      rw [if_neg (fun q => r3 q.2)] at h
      omega
    · rw [if_neg hr]
      split at h <;> split <;> omega
def KR (s : KS) (c : Nat) (F T B : Nat → Int32) : Prop := s.1 = c ∧ ∀ i, i < c → i < 14 → s.2.1 i = B i ∧ s.2.2.1 i = F i ∧ s.2.2.2 i = T i
def CV (f : Nat → Int32) (lv : Bool) (F T B : Nat → Int32) (i : Nat) : Prop := ∃ k, k < 289 ∧ rcP f lv k ∧ F i = nI (k % 17) ∧ T i = nI (REk f lv k) ∧ B i = nI (k / 17)
theorem KR_kp {s : KS} {c : Nat} {F T B : Nat → Int32} {x y z : Int32} (h : KR s c F T B) : KR (kp s x y z) (c + 1) (upd F c y) (upd T c z) (upd B c x) := by
  obtain ⟨h1, h2⟩ := h
  unfold kp
  by_cases h14 : s.1 < 14
  · rw [if_pos h14]
    refine ⟨by show s.1 + 1 = _; omega, fun i hi hi2 => ?_⟩
    show upd s.2.1 s.1 x i = _ ∧ upd s.2.2.1 s.1 y i = _ ∧ upd s.2.2.2 s.1 z i = _
    rw [h1]
    by_cases hq : i = c
    · rw [hq, upd_e, upd_e, upd_e, upd_e, upd_e, upd_e]; exact ⟨rfl, rfl, rfl⟩
    · rw [upd_n hq, upd_n hq, upd_n hq, upd_n hq, upd_n hq, upd_n hq]; exact h2 i (by omega) hi2
  · rw [if_neg h14]
    refine ⟨by show s.1 + 1 = _; omega, fun i hi hi2 => ?_⟩
    show s.2.1 i = _ ∧ s.2.2.1 i = _ ∧ s.2.2.2 i = _
    rw [upd_n (by omega), upd_n (by omega), upd_n (by omega)]
    exact h2 i (by omega) hi2
def ENR (f : Nat → Int32) (k c : Nat) (en : Nat → Nat) (X Y : Nat → Int32) : Prop := (∀ i, i < c → (en i < k ∧ crn f (en i % 17) (en i / 17) = true) ∧ X i = nI (en i % 17) ∧ Y i = nI (en i / 17)) ∧ (∀ z, z < k → crn f (z % 17) (z / 17) = true → ∃ i, i < c ∧ en i = z) ∧ (∀ i j, i < j → j < c → en i < en j) ∧ c = cnr (fun z => crn f (z % 17) (z / 17)) k 0
theorem ENR_y {k c : Nat} {en : Nat → Nat} {X Y : Nat → Int32} (h : ENR f k c en X Y) (hk : crn f (k % 17) (k / 17) = true) : ENR f (k + 1) (c + 1) (upq en c k) (upd X c (nI (k % 17))) (upd Y c (nI (k / 17))) := by
  obtain ⟨h1, h2, h3, h4⟩ := h
  refine ⟨fun i hi => ?_, fun z hz hcz => ?_, fun i j hij hj => ?_, ?_⟩
  · by_cases hq : i = c
    · rw [hq, upq_e, upd_e, upd_e]; exact ⟨⟨by omega, hk⟩, rfl, rfl⟩
    · rw [upq_n hq, upd_n hq, upd_n hq]
      have := h1 i (by omega)
      exact ⟨⟨by omega, this.1.2⟩, this.2⟩
  · by_cases hq : z = k
    · exact ⟨c, by omega, by rw [upq_e, hq]⟩
    · obtain ⟨i, i1, i2⟩ := h2 z (by omega) hcz
      exact ⟨i, by omega, by rw [upq_n (by omega)]; exact i2⟩
  · by_cases hq : j = c
    · rw [hq, upq_e, upq_n (by omega)]
      exact (h1 i (by omega)).1.1
    · rw [upq_n hq, upq_n (by omega)]
      exact h3 i j hij (by omega)
  · rw [cnr_sn, Nat.zero_add, if_pos hk, h4]
theorem ENR_n {k c : Nat} {en : Nat → Nat} {X Y : Nat → Int32} (h : ENR f k c en X Y) (hk : crn f (k % 17) (k / 17) = false) : ENR f (k + 1) c en X Y := by
  obtain ⟨h1, h2, h3, h4⟩ := h
  refine ⟨fun i hi => ⟨⟨by have := (h1 i hi).1.1; omega, (h1 i hi).1.2⟩, (h1 i hi).2⟩, fun z hz hcz => ?_, h3, ?_⟩
  · by_cases hq : z = k
    · rw [hq, hk] at hcz; exact absurd hcz (by decide)
    · exact h2 z (by omega) hcz
  · rw [cnr_sn, Nat.zero_add, hk, if_neg (by decide), h4]
    rfl
end P62a
section P62
variable {S : mm_S} {d : Nat} {M : mm_M} {A : AS} {I : Nat → Int32} {sh : Nat → Nat → Int32} {o : OS} {l : LYS} {pi fa tp : IS}
set_option maxRecDepth 8000 in
theorem m175_L {s c0 : Nat} {P : Option Value → mm_M → Prop} (hc : CRl A sh) (hs6 : s < 6) (hc0 : c0 ≤ 136) : ∀ (j k c : Nat) (u : KS) (F T B : Nat → Int32), k + j = 289 → KB (sh s) true c0 k c → KR u c F T B → c0 ≤ c → (∀ i, c0 ≤ i → i < c → CV (sh s) true F T B i) → (∀ (c' : Nat) (F' T' B' : Nat → Int32), KR (rlf (sh s) true j k u) c' F' T' B' → c ≤ c' → c' ≤ c0 + 136 → (∀ i, c0 ≤ i → i < c' → CV (sh s) true F' T' B' i) → (∀ i, i < c → F' i = F i ∧ T' i = T i ∧ B' i = B i) → mm_R S (d + 4) 175 106 [some (.ref 73), some (.int (nI s)), some (.int (nI 289))] [] (mdm M (upa (upa (upa A 98 F') 99 T') 100 B') (upd I 36 (nI c'))) P) → mm_R S (d + 4) 175 79 [some (.ref 73), some (.int (nI s)), some (.int (nI k))] [] (mdm M (upa (upa (upa A 98 F) 99 T) 100 B) (upd I 36 (nI c))) P := by
  intro j
  induction j with
  | zero =>
    intro k c u F T B hk hb' hR hcc hv K
    have hk9 : k = 289 := by omega
    subst hk9
    have hcb : c ≤ c0 + 136 := by unfold KB at hb'; rw [if_neg (fun q => absurd q.1 (by decide))] at hb'; omega
    refine R_iload_n (q := 80) rfl rfl rfl ?_
    refine R_sipush (q := 83) (v := nI 289) rfl rfl (by decide) ?_
    refine R_icmp_ge (q := 86) (t := 106) rfl rfl rfl (fun h83 => ?_) (fun h83 => absurd (nI_le (by omega) (by omega)) h83)
    exact K c F T B hR (Nat.le_refl _) hcb hv (fun _ _ => ⟨rfl, rfl, rfl⟩)
  | succ j ih =>
    intro k c u F T B hk hb' hR hcc hv K
    have hlt := KB_lt hb' (by omega)
    have hbs := KB_s hb' (by omega)
    refine R_iload_n (q := 80) rfl rfl rfl ?_
    refine R_sipush (q := 83) (v := nI 289) rfl rfl (by decide) ?_
    refine R_icmp_ge (q := 86) (t := 106) rfl rfl rfl (fun h83 => absurd h83 (nI_ge (by omega) (by omega))) (fun h83 => ?_)
    refine R_aload_n (q := 87) rfl rfl rfl ?_
    refine R_iload_n (q := 88) rfl rfl rfl ?_
    refine R_iload_n (q := 89) rfl rfl rfl ?_
    refine R_bipush (q := 91) (v := nI 17) rfl rfl (by decide) ?_
    refine R_irem (q := 92) rfl rfl (by decide) ?_
    rw [pk_rem (by omega) (by omega) (by omega)]
    refine R_iload_n (q := 93) rfl rfl rfl ?_
    refine R_bipush (q := 95) (v := nI 17) rfl rfl (by decide) ?_
    refine R_idiv (q := 96) rfl rfl (by decide) ?_
    rw [pk_div (by omega) (by omega) (by omega)]
    refine R_iconst (q := 97) (v := nI 1) rfl rfl (by decide) ?_
    refine R_callv4 (q := 100) rfl rfl rfl rfl md_73 (Nat.le_of_ble_eq_true rfl) rfl ?_
    refine R_mono (m176_L (t0 := k % 17) (ln := k / 17) hc hs6 (by omega) (by omega) (by omega)) (fun v97 M97 hr97 => ?_)
    obtain ⟨rfl, hm97⟩ := hr97
    rw [hm97]
    dsimp only [Option.toList, List.cons_append, List.nil_append]
    refine R_iinc (q := 103) rfl rfl rfl (nI_i1 k) rfl ?_
    dsimp only [List.set]
    refine R_goto (t := 79) rfl rfl ?_
    by_cases hrc : rcP (sh s) true k
    · rw [if_pos hrc] at hbs
      have hrc2 := hrc
      unfold rcP REk at hrc2
      rw [if_pos hrc2]
      have hst : rst1 (sh s) true k u = kp u (nI (k / 17)) (nI (k % 17)) (nI (REk (sh s) true k)) := if_pos hrc
      refine ih (k + 1) (c + 1) (rst1 (sh s) true k u) _ _ _ (by omega) hbs (by rw [hst]; exact KR_kp hR) (by omega) (fun i h1 h2 => ?_) (fun c' F' T' B' g1 g2 g3 g4 g5 => K c' F' T' B' g1 (by omega) g3 g4 (fun i hi => ?_))
      · by_cases hq : i = c
        · refine ⟨k, by omega, hrc, ?_, ?_, ?_⟩
          · rw [hq, upd_e]
          · rw [hq, upd_e]; rfl
          · rw [hq, upd_e]
        · obtain ⟨z, z1, z2, z3, z4, z5⟩ := hv i h1 (by omega)
          exact ⟨z, z1, z2, by rw [upd_n hq]; exact z3, by rw [upd_n hq]; exact z4, by rw [upd_n hq]; exact z5⟩
      · have := g5 i (by omega)
        rw [upd_n (by omega), upd_n (by omega), upd_n (by omega)] at this
        exact this
    · rw [if_neg hrc] at hbs
      have hrc2 := hrc
      unfold rcP REk at hrc2
      rw [if_neg hrc2]
      have hst : rst1 (sh s) true k u = u := if_neg hrc
      refine ih (k + 1) c (rst1 (sh s) true k u) F T B (by omega) hbs (by rw [hst]; exact hR) hcc hv (fun c' F' T' B' g1 g2 g3 g4 g5 => K c' F' T' B' g1 g2 g3 g4 g5)
set_option maxRecDepth 8000 in
theorem m175_U {s c0 : Nat} {P : Option Value → mm_M → Prop} (hc : CRl A sh) (hs6 : s < 6) (hc0 : c0 ≤ 136) : ∀ (j k c : Nat) (u : KS) (F T B : Nat → Int32), k + j = 289 → KB (sh s) false c0 k c → KR u c F T B → c0 ≤ c → (∀ i, c0 ≤ i → i < c → CV (sh s) false F T B i) → (∀ (c' : Nat) (F' T' B' : Nat → Int32), KR (rlf (sh s) false j k u) c' F' T' B' → c ≤ c' → c' ≤ c0 + 136 → (∀ i, c0 ≤ i → i < c' → CV (sh s) false F' T' B' i) → (∀ i, i < c → F' i = F i ∧ T' i = T i ∧ B' i = B i) → mm_R S (d + 4) 175 143 [some (.ref 73), some (.int (nI s)), some (.int (nI 289))] [] (mdm M (upa (upa (upa A 98 F') 99 T') 100 B') (upd I 36 (nI c'))) P) → mm_R S (d + 4) 175 116 [some (.ref 73), some (.int (nI s)), some (.int (nI k))] [] (mdm M (upa (upa (upa A 98 F) 99 T) 100 B) (upd I 36 (nI c))) P := by
  intro j
  induction j with
  | zero =>
    intro k c u F T B hk hb' hR hcc hv K
    have hk9 : k = 289 := by omega
    subst hk9
    have hcb : c ≤ c0 + 136 := by unfold KB at hb'; rw [if_neg (fun q => absurd q.1 (by decide))] at hb'; omega
    refine R_iload_n (q := 117) rfl rfl rfl ?_
    refine R_sipush (q := 120) (v := nI 289) rfl rfl (by decide) ?_
    refine R_icmp_ge (q := 123) (t := 143) rfl rfl rfl (fun h120 => ?_) (fun h120 => absurd (nI_le (by omega) (by omega)) h120)
    exact K c F T B hR (Nat.le_refl _) hcb hv (fun _ _ => ⟨rfl, rfl, rfl⟩)
  | succ j ih =>
    intro k c u F T B hk hb' hR hcc hv K
    have hlt := KB_lt hb' (by omega)
    have hbs := KB_s hb' (by omega)
    refine R_iload_n (q := 117) rfl rfl rfl ?_
    refine R_sipush (q := 120) (v := nI 289) rfl rfl (by decide) ?_
    refine R_icmp_ge (q := 123) (t := 143) rfl rfl rfl (fun h120 => absurd h120 (nI_ge (by omega) (by omega))) (fun h120 => ?_)
    refine R_aload_n (q := 124) rfl rfl rfl ?_
    refine R_iload_n (q := 125) rfl rfl rfl ?_
    refine R_iload_n (q := 126) rfl rfl rfl ?_
    refine R_bipush (q := 128) (v := nI 17) rfl rfl (by decide) ?_
    refine R_idiv (q := 129) rfl rfl (by decide) ?_
    rw [pk_div (by omega) (by omega) (by omega)]
    refine R_iload_n (q := 130) rfl rfl rfl ?_
    refine R_bipush (q := 132) (v := nI 17) rfl rfl (by decide) ?_
    refine R_irem (q := 133) rfl rfl (by decide) ?_
    rw [pk_rem (by omega) (by omega) (by omega)]
    refine R_iconst (q := 134) (v := nI 0) rfl rfl (by decide) ?_
    refine R_callv4 (q := 137) rfl rfl rfl rfl md_73 (Nat.le_of_ble_eq_true rfl) rfl ?_
    refine R_mono (m176_U (t0 := k % 17) (ln := k / 17) hc hs6 (by omega) (by omega) (by omega)) (fun v134 M134 hr134 => ?_)
    obtain ⟨rfl, hm134⟩ := hr134
    rw [hm134]
    dsimp only [Option.toList, List.cons_append, List.nil_append]
    refine R_iinc (q := 140) rfl rfl rfl (nI_i1 k) rfl ?_
    dsimp only [List.set]
    refine R_goto (t := 116) rfl rfl ?_
    by_cases hrc : rcP (sh s) false k
    · rw [if_pos hrc] at hbs
      have hrc2 := hrc
      unfold rcP REk at hrc2
      rw [if_pos hrc2]
      have hst : rst1 (sh s) false k u = kp u (nI (k / 17)) (nI (k % 17)) (nI (REk (sh s) false k)) := if_pos hrc
      refine ih (k + 1) (c + 1) (rst1 (sh s) false k u) _ _ _ (by omega) hbs (by rw [hst]; exact KR_kp hR) (by omega) (fun i h1 h2 => ?_) (fun c' F' T' B' g1 g2 g3 g4 g5 => K c' F' T' B' g1 (by omega) g3 g4 (fun i hi => ?_))
      · by_cases hq : i = c
        · refine ⟨k, by omega, hrc, ?_, ?_, ?_⟩
          · rw [hq, upd_e]
          · rw [hq, upd_e]; rfl
          · rw [hq, upd_e]
        · obtain ⟨z, z1, z2, z3, z4, z5⟩ := hv i h1 (by omega)
          exact ⟨z, z1, z2, by rw [upd_n hq]; exact z3, by rw [upd_n hq]; exact z4, by rw [upd_n hq]; exact z5⟩
      · have := g5 i (by omega)
        rw [upd_n (by omega), upd_n (by omega), upd_n (by omega)] at this
        exact this
    · rw [if_neg hrc] at hbs
      have hrc2 := hrc
      unfold rcP REk at hrc2
      rw [if_neg hrc2]
      have hst : rst1 (sh s) false k u = u := if_neg hrc
      refine ih (k + 1) c (rst1 (sh s) false k u) F T B (by omega) hbs (by rw [hst]; exact hR) hcc hv (fun c' F' T' B' g1 g2 g3 g4 g5 => K c' F' T' B' g1 g2 g3 g4 g5)
set_option maxRecDepth 8000 in
theorem m175 {s : Nat} {u : KS} (hu : u.1 = 0) (hc : CRl A sh) (hs6 : s < 6) : mm_R S (d + 4) 175 0 (mm_en 175 [.ref 73, .int (nI s)]) [] (mdm M A I) (fun v M' => v = none ∧ ∃ (X Y F T B : Nat → Int32) (en : Nat → Nat) (n c1 c2 : Nat), M' = mdm M (upa (upa (upa (upa (upa A 96 X) 97 Y) 98 F) 99 T) 100 B) (upd (upd (upd I 31 (nI n)) 35 (nI c1)) 36 (nI c2)) ∧ ENR (sh s) 289 n en X Y ∧ c1 = (rlf (sh s) true 289 0 u).1 ∧ KR (rlf (sh s) false 289 0 (rlf (sh s) true 289 0 u)) c2 F T B ∧ (c1 ≤ c2 ∧ c2 ≤ 272) ∧ (∀ i, i < c1 → CV (sh s) true F T B i) ∧ ∀ i, c1 ≤ i → i < c2 → CV (sh s) false F T B i) := by
  show mm_R S (d + 4) 175 0 [some (.ref 73), some (.int (nI s)), none] [] (mdm M A I) _
  have hco : ∀ (j k c : Nat) (X Y : Nat → Int32) (en : Nat → Nat), k + j = 289 → ENR (sh s) k c en X Y → mm_R S (d + 4) 175 7 [some (.ref 73), some (.int (nI s)), some (.int (nI k))] [] (mdm M (upa (upa A 96 X) 97 Y) (upd I 31 (nI c))) (fun v M' => v = none ∧ ∃ (X Y F T B : Nat → Int32) (en : Nat → Nat) (n c1 c2 : Nat), M' = mdm M (upa (upa (upa (upa (upa A 96 X) 97 Y) 98 F) 99 T) 100 B) (upd (upd (upd I 31 (nI n)) 35 (nI c1)) 36 (nI c2)) ∧ ENR (sh s) 289 n en X Y ∧ c1 = (rlf (sh s) true 289 0 u).1 ∧ KR (rlf (sh s) false 289 0 (rlf (sh s) true 289 0 u)) c2 F T B ∧ (c1 ≤ c2 ∧ c2 ≤ 272) ∧ (∀ i, i < c1 → CV (sh s) true F T B i) ∧ ∀ i, c1 ≤ i → i < c2 → CV (sh s) false F T B i) := by
    intro j
    induction j with
    | zero =>
      intro k c X Y en hk hE
      have hk9 : k = 289 := by omega
      subst hk9
      have rr1 : CRl (upa (upa A 96 X) 97 Y) sh := hc
      refine R_iload_n (q := 8) rfl rfl rfl ?_
      refine R_sipush (q := 11) (v := nI 289) rfl rfl (by decide) ?_
      refine R_icmp_ge (q := 14) (t := 72) rfl rfl rfl (fun h11 => ?_) (fun h11 => absurd (nI_le (by omega) (by omega)) h11)
      refine R_aload_n (q := 73) rfl rfl rfl ?_
      refine R_iconst (q := 74) (v := nI 0) rfl rfl (by decide) ?_
      refine R_putf (q := 77) rfl rfl rfl md_73 (Nat.le_of_ble_eq_true rfl) rfl (fun hf => absurd hf (by decide)) rfl ?_
      dsimp only [List.set]
      rw [md_f36]
      refine R_iconst (q := 78) (v := nI 0) rfl rfl (by decide) ?_
      refine R_istore_n (q := 79) rfl rfl (Nat.le_of_ble_eq_true rfl) rfl ?_
      dsimp only [List.set]
      have h0 := m175_L (S := S) (d := d) (M := M) (A := upa (upa A 96 X) 97 Y) (I := upd I 31 (nI c)) (c0 := 0) (P := (fun v M' => v = none ∧ ∃ (X Y F T B : Nat → Int32) (en : Nat → Nat) (n c1 c2 : Nat), M' = mdm M (upa (upa (upa (upa (upa A 96 X) 97 Y) 98 F) 99 T) 100 B) (upd (upd (upd I 31 (nI n)) 35 (nI c1)) 36 (nI c2)) ∧ ENR (sh s) 289 n en X Y ∧ c1 = (rlf (sh s) true 289 0 u).1 ∧ KR (rlf (sh s) false 289 0 (rlf (sh s) true 289 0 u)) c2 F T B ∧ (c1 ≤ c2 ∧ c2 ≤ 272) ∧ (∀ i, i < c1 → CV (sh s) true F T B i) ∧ ∀ i, c1 ≤ i → i < c2 → CV (sh s) false F T B i)) rr1 hs6 (by omega) 289 0 0 u (A 98) (A 99) (A 100) (by omega) (by unfold KB; omega) ⟨hu, fun i hi => absurd hi (Nat.not_lt_zero _)⟩ (Nat.le_refl _) (fun i _ hi => absurd hi (Nat.not_lt_zero _)) (fun c1 F1 T1 B1 g1 _ g3 g4 _ => ?_)
      · rw [show A 98 = upa (upa A 96 X) 97 Y 98 from rfl, upa_s, show A 99 = upa (upa A 96 X) 97 Y 99 from rfl, upa_s, show A 100 = upa (upa A 96 X) 97 Y 100 from rfl, upa_s] at h0
        exact h0
      · refine R_aload_n (q := 107) rfl rfl rfl ?_
        refine R_aload_n (q := 108) rfl rfl rfl ?_
        refine R_getf (q := 111) rfl rfl rfl md_73 rfl ?_
        rw [upd_e]
        refine R_putf (q := 114) rfl rfl rfl md_73 (Nat.le_of_ble_eq_true rfl) rfl (fun hf => absurd hf (by decide)) rfl ?_
        dsimp only [List.set]
        rw [md_f35]
        refine R_iconst (q := 115) (v := nI 0) rfl rfl (by decide) ?_
        refine R_istore_n (q := 116) rfl rfl (Nat.le_of_ble_eq_true rfl) rfl ?_
        dsimp only [List.set]
        have h1 := m175_U (S := S) (d := d) (M := M) (A := upa (upa A 96 X) 97 Y) (I := upd (upd I 31 (nI c)) 35 (nI c1)) (c0 := c1) (P := (fun v M' => v = none ∧ ∃ (X Y F T B : Nat → Int32) (en : Nat → Nat) (n c1 c2 : Nat), M' = mdm M (upa (upa (upa (upa (upa A 96 X) 97 Y) 98 F) 99 T) 100 B) (upd (upd (upd I 31 (nI n)) 35 (nI c1)) 36 (nI c2)) ∧ ENR (sh s) 289 n en X Y ∧ c1 = (rlf (sh s) true 289 0 u).1 ∧ KR (rlf (sh s) false 289 0 (rlf (sh s) true 289 0 u)) c2 F T B ∧ (c1 ≤ c2 ∧ c2 ≤ 272) ∧ (∀ i, i < c1 → CV (sh s) true F T B i) ∧ ∀ i, c1 ≤ i → i < c2 → CV (sh s) false F T B i)) rr1 hs6 (by omega) 289 0 c1 (rlf (sh s) true 289 0 u) F1 T1 B1 (by omega) (by unfold KB; omega) g1 (Nat.le_refl _) (fun i h1 h2 => by omega) (fun c2 F2 T2 B2 k1 k2 k3 k4 k5 => ?_)
        · rw [upd_cm (a := 36) (b := 35) (by decide)]
          exact h1
        · refine R_return rfl rfl ?_
          refine ⟨rfl, X, Y, F2, T2, B2, en, c, c1, c2, rfl, hE, g1.1.symm, k1, ⟨k2, by omega⟩, fun i hi => ?_, k4⟩
          obtain ⟨z, z1, z2, z3, z4, z5⟩ := g4 i (Nat.zero_le _) hi
          have := k5 i hi
          exact ⟨z, z1, z2, by rw [this.1]; exact z3, by rw [this.2.1]; exact z4, by rw [this.2.2]; exact z5⟩
    | succ j ih =>
      intro k c X Y en hk hE
      have rr1 : CRl (upa (upa A 96 X) 97 Y) sh := hc
      have hcl : c ≤ k := by have h4 := hE.2.2.2; have := cnr_le (g := fun z => crn (sh s) (z % 17) (z / 17)) k 0; omega
      refine R_iload_n (q := 8) rfl rfl rfl ?_
      refine R_sipush (q := 11) (v := nI 289) rfl rfl (by decide) ?_
      refine R_icmp_ge (q := 14) (t := 72) rfl rfl rfl (fun h11 => absurd h11 (nI_ge (by omega) (by omega))) (fun h11 => ?_)
      refine R_aload_n (q := 15) rfl rfl rfl ?_
      refine R_iload_n (q := 16) rfl rfl rfl ?_
      refine R_iload_n (q := 17) rfl rfl rfl ?_
      refine R_bipush (q := 19) (v := nI 17) rfl rfl (by decide) ?_
      refine R_irem (q := 20) rfl rfl (by decide) ?_
      rw [pk_rem (by omega) (by omega) (by omega)]
      refine R_iload_n (q := 21) rfl rfl rfl ?_
      refine R_bipush (q := 23) (v := nI 17) rfl rfl (by decide) ?_
      refine R_idiv (q := 24) rfl rfl (by decide) ?_
      rw [pk_div (by omega) (by omega) (by omega)]
      refine R_callv3 (q := 27) rfl rfl rfl rfl md_73 (Nat.le_of_ble_eq_true rfl) rfl ?_
      refine R_mono (m173 (x := k % 17) (y := k / 17) rr1 hs6 (by omega) (by omega)) (fun v24 M24 hr24 => ?_)
      obtain ⟨rfl, hm24⟩ := hr24
      rw [hm24]
      dsimp only [Option.toList, List.cons_append, List.nil_append]
      refine R_if_eq (q := 30) (t := 66) rfl rfl rfl (fun h27 => ?_) (fun h27 => ?_)
      · refine R_iinc (q := 69) rfl rfl rfl (nI_i1 k) rfl ?_
        dsimp only [List.set]
        refine R_goto (t := 7) rfl rfl ?_
        first
          | (have z := zb_eq0.mp h27
             exact ih (k + 1) c X Y en (by omega) (ENR_n hE z))
          | (have z := zb_ne0.mp h27
             exact ih (k + 1) (c + 1) _ _ (upq en c k) (by omega) (ENR_y hE z))
      · refine R_aload_n (q := 31) rfl rfl rfl ?_
        refine R_getf (q := 34) rfl rfl rfl md_73 rfl ?_
        refine R_aload_n (q := 35) rfl rfl rfl ?_
        refine R_getf (q := 38) rfl rfl rfl md_73 rfl ?_
        rw [upd_e]
        refine R_iload_n (q := 39) rfl rfl rfl ?_
        refine R_bipush (q := 41) (v := nI 17) rfl rfl (by decide) ?_
        refine R_irem (q := 42) rfl rfl (by decide) ?_
        rw [pk_rem (by omega) (by omega) (by omega)]
        refine R_iastore (q := 43) rfl rfl md_96 (by first | assumption | exact in_nI (by omega) (by decide)) ?_
        rw [cl_nI (by omega)]
        rw [md_p96]
        rw [upa_cm (a := 97) (b := 96) (by decide), upa_u, show upa (upa A 96 X) 97 Y 96 = X from rfl]
        refine R_aload_n (q := 44) rfl rfl rfl ?_
        refine R_getf (q := 47) rfl rfl rfl md_73 rfl ?_
        refine R_aload_n (q := 48) rfl rfl rfl ?_
        refine R_getf (q := 51) rfl rfl rfl md_73 rfl ?_
        rw [upd_e]
        refine R_iload_n (q := 52) rfl rfl rfl ?_
        refine R_bipush (q := 54) (v := nI 17) rfl rfl (by decide) ?_
        refine R_idiv (q := 55) rfl rfl (by decide) ?_
        rw [pk_div (by omega) (by omega) (by omega)]
        refine R_iastore (q := 56) rfl rfl md_97 (by first | assumption | exact in_nI (by omega) (by decide)) ?_
        rw [cl_nI (by omega)]
        rw [md_p97]
        rw [upa_u, upa_e]
        refine R_aload_n (q := 57) rfl rfl rfl ?_
        first | refine R_dupa (q := 58) rfl rfl ?_ | refine R_dupi (q := 58) rfl rfl ?_
        refine R_getf (q := 61) rfl rfl rfl md_73 rfl ?_
        rw [upd_e]
        refine R_iconst (q := 62) (v := nI 1) rfl rfl (by decide) ?_
        refine R_iadd (q := 63) rfl rfl ?_
        rw [nI_add]
        refine R_putf (q := 66) rfl rfl rfl md_73 (Nat.le_of_ble_eq_true rfl) rfl (fun hf => absurd hf (by decide)) rfl ?_
        dsimp only [List.set]
        rw [md_f31]
        rw [upd_uu]
        refine R_iinc (q := 69) rfl rfl rfl (nI_i1 k) rfl ?_
        dsimp only [List.set]
        refine R_goto (t := 7) rfl rfl ?_
        first
          | (have z := zb_eq0.mp h27
             exact ih (k + 1) c X Y en (by omega) (ENR_n hE z))
          | (have z := zb_ne0.mp h27
             exact ih (k + 1) (c + 1) _ _ (upq en c k) (by omega) (ENR_y hE z))
  refine R_aload_n (q := 1) rfl rfl rfl ?_
  refine R_iconst (q := 2) (v := nI 0) rfl rfl (by decide) ?_
  refine R_putf (q := 5) rfl rfl rfl md_73 (Nat.le_of_ble_eq_true rfl) rfl (fun hf => absurd hf (by decide)) rfl ?_
  dsimp only [List.set]
  rw [md_f31]
  refine R_iconst (q := 6) (v := nI 0) rfl rfl (by decide) ?_
  refine R_istore_n (q := 7) rfl rfl (Nat.le_of_ble_eq_true rfl) rfl ?_
  dsimp only [List.set]
  have h0 := hco 289 0 0 (A 96) (A 97) (fun _ => 0) (by omega) ⟨fun i hi => absurd hi (Nat.not_lt_zero _), fun z hz => absurd hz (Nat.not_lt_zero _), fun i j _ hj => absurd hj (Nat.not_lt_zero _), rfl⟩
  rw [upa_s, upa_s] at h0
  exact h0
end P62
