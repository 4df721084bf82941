/-! ===== the cuts: what they leave are rectangles ===== -/
def hB (q : QS) (y x : Nat) : Bool := bt (q.1 y) x
def vB (q : QS) (y x : Nat) : Bool := bt (q.2.1 y) x
def pB (q : QS) (y x : Nat) : Bool := bt (q.2.2.1 y) x
def oB (q : QS) (y x : Nat) : Bool := bt (q.2.2.2 y) x
theorem or_spn {v : Int32} {s t x : Nat} (ht : t < 18) (hst : s ≤ t) (hx : x < 32) : bt (v ||| spn s t) x = true ↔ bt v x = true ∨ (s ≤ x ∧ x < t) := by
  rw [b_or, Bool.or_eq_true, spn_bt ht hst hx, decide_eq_true_iff]
theorem or_bi {v : Int32} {i x : Nat} (hi : i < 32) (hx : x < 32) : bt (v ||| bi i) x = true ↔ bt v x = true ∨ x = i := by
  rw [b_or, Bool.or_eq_true, bi_bt hi hx, decide_eq_true_iff]
section P68
variable {f : Nat → Int32} {q : QS}
theorem qlev_b {y s t y' x : Nat} (hst : s ≤ t) (ht : t ≤ 16) (hx : x < 32) : (hB (qlev q y s t) y' x = true ↔ hB q y' x = true ∨ (y' = y ∧ s ≤ x ∧ x < t)) ∧ vB (qlev q y s t) y' x = vB q y' x ∧ (pB (qlev q y s t) y' x = true ↔ pB q y' x = true ∨ (y' = y ∧ s ≤ x ∧ x ≤ t)) ∧ oB (qlev q y s t) y' x = oB q y' x := by
  refine ⟨?_, rfl, ?_, rfl⟩
  · show bt (upd q.1 y (q.1 y ||| spn s t) y') x = true ↔ bt (q.1 y') x = true ∨ _
    by_cases h : y' = y
    · rw [h, upd_e, or_spn (by omega) hst hx]
      exact ⟨fun z => z.imp id (fun w => ⟨rfl, w⟩), fun z => z.imp id (fun w => w.2)⟩
    · rw [upd_n h]
      exact ⟨fun z => Or.inl z, fun z => z.elim id (fun w => absurd w.1 h)⟩
  · show bt (upd q.2.2.1 y (q.2.2.1 y ||| spn s (t + 1)) y') x = true ↔ bt (q.2.2.1 y') x = true ∨ _
    by_cases h : y' = y
    · rw [h, upd_e, or_spn (by omega) (by omega) hx]
      exact ⟨fun z => z.imp id (fun w => ⟨rfl, by omega⟩), fun z => z.imp id (fun w => by omega)⟩
    · rw [upd_n h]
      exact ⟨fun z => Or.inl z, fun z => z.elim id (fun w => absurd w.1 h)⟩
theorem ifr_bi {g : Nat → Int32} {c s t y x : Nat} (hc : c < 32) (hx : x < 32) : bt (ifr (fun y => g y ||| bi c) g s t y) x = true ↔ bt (g y) x = true ∨ (x = c ∧ s ≤ y ∧ y < t) := by
  unfold ifr
  by_cases h : s ≤ y ∧ y < t
  · rw [if_pos h, or_bi hc hx]
    exact ⟨fun z => z.imp id (fun w => ⟨w, h⟩), fun z => z.imp id (fun w => w.1)⟩
  · rw [if_neg h]
    exact ⟨fun z => Or.inl z, fun z => z.elim id (fun w => absurd w.2 h)⟩
theorem qupr_b {c s t y x : Nat} (hst : s ≤ t) (hc : c < 32) (hx : x < 32) : hB (qupr q c s t) y x = hB q y x ∧ (vB (qupr q c s t) y x = true ↔ vB q y x = true ∨ (x = c ∧ s ≤ y ∧ y < t)) ∧ (pB (qupr q c s t) y x = true ↔ pB q y x = true ∨ (x = c ∧ s ≤ y ∧ y ≤ t)) ∧ oB (qupr q c s t) y x = oB q y x := by
  refine ⟨rfl, ifr_bi hc hx, ?_, rfl⟩
  show bt (upd (ifr (fun y => q.2.2.1 y ||| bi c) q.2.2.1 s t) t (ifr (fun y => q.2.2.1 y ||| bi c) q.2.2.1 s t t ||| bi c) y) x = true ↔ bt (q.2.2.1 y) x = true ∨ _
  by_cases h : y = t
  · rw [h, upd_e, or_bi hc hx, ifr_bi hc hx]
    constructor
    · intro z; rcases z with (z | z) | z
      · exact Or.inl z
      · omega
      · exact Or.inr ⟨z, hst, Nat.le_refl _⟩
    · intro z; rcases z with z | z
      · exact Or.inl (Or.inl z)
      · exact Or.inr z.1
  · rw [upd_n h, ifr_bi hc hx]
    constructor
    · intro z; rcases z with z | z
      · exact Or.inl z
      · exact Or.inr ⟨z.1, z.2.1, by omega⟩
    · intro z; rcases z with z | z
      · exact Or.inl z
      · exact Or.inr ⟨z.1, z.2.1, by omega⟩
def F4 (f : Nat → Int32) (x y : Nat) : Prop := ((1 ≤ x ∧ x ≤ 15) ∧ 1 ≤ y ∧ y ≤ 15) ∧ (bt (f (y - 1)) (x - 1) = true ∧ bt (f (y - 1)) x = true) ∧ bt (f y) (x - 1) = true ∧ bt (f y) x = true
theorem hZ_1 {x y : Nat} (hx : 1 ≤ x ∧ x ≤ 16) (hy : y < 16) : hZ f ((x : Int) - 1) y = bt (f y) (x - 1) := by
  rw [show (x : Int) - 1 = ((x - 1 : Nat) : Int) by omega]
  exact hZ_n (by omega) hy
theorem hZ_2 {x y : Nat} (hx : x < 16) (hy : 1 ≤ y ∧ y ≤ 16) : hZ f x ((y : Int) - 1) = bt (f (y - 1)) x := by
  rw [show (y : Int) - 1 = ((y - 1 : Nat) : Int) by omega]
  exact hZ_n hx (by omega)
theorem hZ_3 {x y : Nat} (hx : 1 ≤ x ∧ x ≤ 16) (hy : 1 ≤ y ∧ y ≤ 16) : hZ f ((x : Int) - 1) ((y : Int) - 1) = bt (f (y - 1)) (x - 1) := by
  rw [show (x : Int) - 1 = ((x - 1 : Nat) : Int) by omega, show (y : Int) - 1 = ((y - 1 : Nat) : Int) by omega]
  exact hZ_n (by omega) (by omega)
theorem crn_n {x y : Nat} (hx : 1 ≤ x ∧ x ≤ 15) (hy : 1 ≤ y ∧ y ≤ 15) : crn f x y = decide (b2 (bt (f y) x) + b2 (bt (f y) (x - 1)) + b2 (bt (f (y - 1)) x) + b2 (bt (f (y - 1)) (x - 1)) = 3) := by
  unfold crn
  rw [hZ_n (by omega) (by omega), hZ_1 (by omega) (by omega), hZ_2 (by omega) (by omega), hZ_3 (by omega) (by omega)]
theorem crn_F4 {x y : Nat} (h : F4 f x y) : crn f x y = false := by
  obtain ⟨⟨h1, h2⟩, ⟨h3, h4⟩, h5, h6⟩ := h
  rw [crn_n h1 h2, h3, h4, h5, h6]
  rfl
theorem crn_15 {x y : Nat} (h : crn f x y = true) (hx : x ≤ 16) (hy : y ≤ 16) : (1 ≤ x ∧ x ≤ 15) ∧ 1 ≤ y ∧ y ≤ 15 := by
  refine Classical.byContradiction (fun q => ?_)
  rw [crn_rim (by omega)] at h
  exact absurd h (by decide)
theorem inL_n {x y : Nat} (hx : x < 16) (hy : 1 ≤ y ∧ y ≤ 15) : innr f true y x = (bt (f y) x && bt (f (y - 1)) x) := by
  unfold innr
  rw [if_pos rfl, hZ_n hx (by omega), hZ_2 hx (by omega)]
theorem inU_n {x y : Nat} (hx : 1 ≤ x ∧ x ≤ 15) (hy : y < 16) : innr f false x y = (bt (f y) x && bt (f y) (x - 1)) := by
  unfold innr
  rw [if_neg (by decide), hZ_n (by omega) hy, hZ_1 (by omega) hy]
/-- every cut goes on, or ends where it may -/
def CUP (f : Nat → Int32) (q : QS) : Prop := (∀ y x, y ≤ 16 → x ≤ 16 → hB q y x = true → pB q y x = true ∧ pB q y (x + 1) = true) ∧ (∀ y x, y < 16 → x ≤ 16 → vB q y x = true → pB q y x = true ∧ pB q (y + 1) x = true) ∧ ∀ x y, F4 f x y → pB q y x = true → (hB q y (x - 1) = true ∧ hB q y x = true) ∨ (vB q (y - 1) x = true ∧ vB q y x = true)
theorem CUP_lev {y s t : Nat} (h : CUP f q) (hst : s < t) (ht : t ≤ 16) (hs : ¬ F4 f s y ∨ pB q y s = true) (he : ¬ F4 f t y ∨ pB q y t = true) : CUP f (qlev q y s t) := by
  obtain ⟨h1, h2, h3⟩ := h
  refine ⟨fun y' x hy' hx z => ?_, fun y' x hy' hx z => ?_, fun x y' hF z => ?_⟩
  · rw [(qlev_b (by omega) ht (by omega)).1] at z
    rw [(qlev_b (by omega) ht (by omega)).2.2.1, (qlev_b (by omega) ht (by omega)).2.2.1]
    rcases z with z | z
    · exact ⟨Or.inl (h1 y' x hy' hx z).1, Or.inl (h1 y' x hy' hx z).2⟩
    · exact ⟨Or.inr ⟨z.1, by omega, by omega⟩, Or.inr ⟨z.1, by omega, by omega⟩⟩
  · rw [(qlev_b (by omega) ht (by omega)).2.1] at z
    rw [(qlev_b (by omega) ht (by omega)).2.2.1, (qlev_b (by omega) ht (by omega)).2.2.1]
    exact ⟨Or.inl (h2 y' x hy' hx z).1, Or.inl (h2 y' x hy' hx z).2⟩
  · have hx := hF.1.1
    rw [(qlev_b (by omega) ht (by omega)).2.2.1] at z
    rw [(qlev_b (by omega) ht (by omega)).1, (qlev_b (by omega) ht (by omega)).1, (qlev_b (by omega) ht (by omega)).2.1, (qlev_b (by omega) ht (by omega)).2.1]
    have old : pB q y' x = true → _ := fun w => (h3 x y' hF w).imp (fun v => (⟨Or.inl v.1, Or.inl v.2⟩ : (hB q y' (x - 1) = true ∨ y' = y ∧ s ≤ x - 1 ∧ x - 1 < t) ∧ (hB q y' x = true ∨ y' = y ∧ s ≤ x ∧ x < t))) id
    rcases z with z | ⟨z1, z2, z3⟩
    · exact old z
    · by_cases e1 : x = s
      · rw [e1, z1] at hF
        rcases hs with w | w
        · exact absurd hF w
        · exact old (by rw [e1, z1]; exact w)
      · by_cases e2 : x = t
        · rw [e2, z1] at hF
          rcases he with w | w
          · exact absurd hF w
          · exact old (by rw [e2, z1]; exact w)
        · exact Or.inl ⟨Or.inr ⟨z1, by omega, by omega⟩, Or.inr ⟨z1, by omega, by omega⟩⟩
theorem CUP_upr {c s t : Nat} (h : CUP f q) (hst : s < t) (hc : c ≤ 16) (hs : ¬ F4 f c s) (he : ¬ F4 f c t) : CUP f (qupr q c s t) := by
  obtain ⟨h1, h2, h3⟩ := h
  refine ⟨fun y' x hy' hx z => ?_, fun y' x hy' hx z => ?_, fun x y' hF z => ?_⟩
  · rw [(qupr_b (by omega) (by omega) (by omega)).1] at z
    rw [(qupr_b (by omega) (by omega) (by omega)).2.2.1, (qupr_b (by omega) (by omega) (by omega)).2.2.1]
    exact ⟨Or.inl (h1 y' x hy' hx z).1, Or.inl (h1 y' x hy' hx z).2⟩
  · rw [(qupr_b (by omega) (by omega) (by omega)).2.1] at z
    rw [(qupr_b (by omega) (by omega) (by omega)).2.2.1, (qupr_b (by omega) (by omega) (by omega)).2.2.1]
    rcases z with z | z
    · exact ⟨Or.inl (h2 y' x hy' hx z).1, Or.inl (h2 y' x hy' hx z).2⟩
    · exact ⟨Or.inr ⟨z.1, by omega, by omega⟩, Or.inr ⟨z.1, by omega, by omega⟩⟩
  · have hx := hF.1.1
    rw [(qupr_b (by omega) (by omega) (by omega)).2.2.1] at z
    rw [(qupr_b (by omega) (by omega) (by omega)).1, (qupr_b (by omega) (by omega) (by omega)).1, (qupr_b (by omega) (by omega) (by omega)).2.1, (qupr_b (by omega) (by omega) (by omega)).2.1]
    rcases z with z | ⟨z1, z2, z3⟩
    · exact (h3 x y' hF z).imp id (fun v => ⟨Or.inl v.1, Or.inl v.2⟩)
    · have e1 : ¬ y' = s := fun w => by rw [z1, w] at hF; exact hs hF
      have e2 : ¬ y' = t := fun w => by rw [z1, w] at hF; exact he hF
      have := hF.1.2
      exact Or.inr ⟨Or.inr ⟨z1, by omega, by omega⟩, Or.inr ⟨z1, by omega, by omega⟩⟩
/-- a corner that a cut leaves from -/
def RSc (f : Nat → Int32) (q : QS) (x y : Nat) : Prop := (if innr f true y x = true then hB q y x = true else hB q y (x - 1) = true) ∨ (if innr f false x y = true then vB q y x = true else vB q (y - 1) x = true)
theorem RSc_mono {q' : QS} {x y : Nat} (hh : ∀ y' x', x' ≤ 16 → hB q y' x' = true → hB q' y' x' = true) (hv : ∀ y' x', x' ≤ 16 → vB q y' x' = true → vB q' y' x' = true) (hx : x ≤ 16) (h : RSc f q x y) : RSc f q' x y := by
  unfold RSc at *
  rcases h with h | h
  · left
    split at h
    · rename_i w; rw [if_pos w]; exact hh _ _ hx h
    · rename_i w; rw [if_neg w]; exact hh _ _ (by omega) h
  · right
    split at h
    · rename_i w; rw [if_pos w]; exact hv _ _ hx h
    · rename_i w; rw [if_neg w]; exact hv _ _ hx h
def CD (f : Nat → Int32) (lv : Bool) (ln s t : Nat) : Prop := (corr f lv ln s = true ∧ corr f lv ln t = true) ∧ (s < t ∧ t ≤ 16 ∧ ln ≤ 16) ∧ innr f lv ln s = true ∧ ¬ innr f lv ln t = true ∧ innr f lv ln (t - 1) = true
theorem re_in {g : Nat → Bool} : ∀ n s t, s ≤ t → t < re g n s → g t = true := by
  intro n
  induction n with
  | zero => intro s t h1 h2; have h2 : t < s := h2; omega
  | succ n ih =>
    intro s t h1 h2
    by_cases hg : g s = true
    · have e : re g (n + 1) s = re g n (s + 1) := if_pos hg
      rw [e] at h2
      by_cases hq : t = s
      · rw [hq]; exact hg
      · exact ih (s + 1) t (by omega) h2
    · have e : re g (n + 1) s = s := if_neg hg
      rw [e] at h2; omega
theorem rcP_CD {lv : Bool} {k : Nat} (hk : k < 289) (h : rcP f lv k) : CD f lv (k / 17) (k % 17) (REk f lv k) := by
  have h1 := rcP_in h
  have h2 := re_ge (innr f lv (k / 17)) (16 - k % 17) (k % 17)
  have hR : REk f lv k = re (innr f lv (k / 17)) (16 - k % 17) (k % 17) := rfl
  refine ⟨⟨h.1, h.2.2⟩, ⟨h.2.1, by omega, by omega⟩, h1.1, fun z => ?_, ?_⟩
  · have h15 : REk f lv k < 16 := by
      refine Classical.byContradiction (fun w => ?_)
      have h3 := h.2.2
      rw [corr_rim (Or.inr (Or.inl (by omega)))] at h3
      exact absurd h3 (by decide)
    have := re_stop (g := innr f lv (k / 17)) (16 - k % 17) (k % 17) (by omega)
    rw [← hR, z] at this
    exact absurd this (by decide)
  · have := h.2.1
    exact re_in (16 - k % 17) (k % 17) (REk f lv k - 1) (by omega) (by omega)
def OCI (f : Nat → Int32) (q : QS) : Prop := ∀ x y, x ≤ 16 → y ≤ 16 → crn f x y = true → oB q y x = true ∨ RSc f q x y
theorem qch_L {ln s t : Nat} (h : CUP f q) (ho : OCI f q) (hd : CD f true ln s t) : CUP f (qch q true ln s t) ∧ OCI f (qch q true ln s t) := by
  obtain ⟨⟨d1, d2⟩, ⟨d3, d4, d5⟩, d6, d7, d8⟩ := hd
  have d1 : crn f s ln = true := d1
  have d2 : crn f t ln = true := d2
  have hnF : ∀ x, crn f x ln = true → ¬ F4 f x ln := fun x w z => by rw [crn_F4 z] at w; exact absurd w (by decide)
  have hC := CUP_lev h d3 d4 (Or.inl (hnF s d1)) (Or.inl (hnF t d2))
  have s15 := crn_15 d1 (by omega) d5
  have t15 := crn_15 d2 d4 d5
  refine ⟨hC, fun x y hx hy hc => ?_⟩
  have hmono : RSc f q x y → RSc f (qch q true ln s t) x y := RSc_mono (fun y' x' hx' w => (qlev_b (q := q) (y := ln) (by omega) d4 (by omega)).1.mpr (Or.inl w)) (fun y' x' _ w => w) hx
  by_cases e1 : y = ln ∧ x = s
  · right; left
    rw [e1.1, e1.2, if_pos d6]
    exact (qlev_b (q := q) (y := ln) (by omega) d4 (by omega)).1.mpr (Or.inr ⟨rfl, by omega, by omega⟩)
  · by_cases e2 : y = ln ∧ x = t
    · right; left
      rw [e2.1, e2.2, if_neg d7]
      exact (qlev_b (q := q) (y := ln) (by omega) d4 (by omega)).1.mpr (Or.inr ⟨rfl, by omega, by omega⟩)
    · rcases ho x y hx hy hc with w | w
      · left
        show bt (upd q.2.2.2 ln (q.2.2.2 ln &&& ((bi s ^^^ (-1)) &&& (bi t ^^^ (-1)))) y) x = true
        by_cases hy2 : y = ln
        · rw [hy2, upd_e, b_and, b_and, b_xor, b_xor, bi_bt (by omega) (by omega), bi_bt (by omega) (by omega), b_m1 x (by omega), decide_eq_false (fun z => e1 ⟨hy2, z⟩), decide_eq_false (fun z => e2 ⟨hy2, z⟩)]
          have w : bt (q.2.2.2 y) x = true := w
          rw [hy2] at w
          rw [w]
          rfl
        · rw [upd_n hy2]; exact w
      · exact Or.inr (hmono w)
theorem qch_U {ln s t : Nat} (h : CUP f q) (ho : OCI f q) (hd : CD f false ln s t) : CUP f (qch q false ln s t) ∧ OCI f (qch q false ln s t) := by
  obtain ⟨⟨d1, d2⟩, ⟨d3, d4, d5⟩, d6, d7, d8⟩ := hd
  have d1 : crn f ln s = true := d1
  have d2 : crn f ln t = true := d2
  have hnF : ∀ y, crn f ln y = true → ¬ F4 f ln y := fun y w z => by rw [crn_F4 z] at w; exact absurd w (by decide)
  have hC := CUP_upr h d3 d5 (hnF s d1) (hnF t d2)
  have s15 := crn_15 d1 d5 (by omega)
  have t15 := crn_15 d2 d5 d4
  refine ⟨hC, fun x y hx hy hc => ?_⟩
  have hmono : RSc f q x y → RSc f (qch q false ln s t) x y := RSc_mono (fun y' x' _ w => w) (fun y' x' hx' w => (qupr_b (q := q) (c := ln) (by omega) (by omega) (by omega)).2.1.mpr (Or.inl w)) hx
  by_cases e1 : x = ln ∧ y = s
  · right; right
    rw [e1.1, e1.2, if_pos d6]
    exact (qupr_b (q := q) (c := ln) (by omega) (by omega) (by omega)).2.1.mpr (Or.inr ⟨rfl, by omega, by omega⟩)
  · by_cases e2 : x = ln ∧ y = t
    · right; right
      rw [e2.1, e2.2, if_neg d7]
      exact (qupr_b (q := q) (c := ln) (by omega) (by omega) (by omega)).2.1.mpr (Or.inr ⟨rfl, by omega, by omega⟩)
    · rcases ho x y hx hy hc with w | w
      · left
        have w : bt (q.2.2.2 y) x = true := w
        have hnb : ∀ v : Int32, bt v x = true → ¬ x = ln → bt (v &&& (bi ln ^^^ (-1))) x = true := fun v w1 w2 => (bt_nb (by omega) (by omega)).mpr ⟨w1, w2⟩
        show bt (upd (upd q.2.2.2 s (q.2.2.2 s &&& (bi ln ^^^ (-1)))) t (upd q.2.2.2 s (q.2.2.2 s &&& (bi ln ^^^ (-1))) t &&& (bi ln ^^^ (-1))) y) x = true
        by_cases hyt : y = t
        · rw [hyt, upd_e, upd_n (by omega)]
          rw [hyt] at w
          exact hnb _ w (fun z => e2 ⟨z, hyt⟩)
        · rw [upd_n hyt]
          by_cases hys : y = s
          · rw [hys, upd_e]
            rw [hys] at w
            exact hnb _ w (fun z => e1 ⟨z, hys⟩)
          · rw [upd_n hys]; exact w
      · exact Or.inr (hmono w)
theorem qcs_I {lv : Nat} {ch : Int32} {A B C : Nat → Nat} {n : Nat} (hD : ∀ i, i < n → CD f (decide (i < lv)) (A i) (B i) (C i)) : ∀ k i q, i + k = n → CUP f q → OCI f q → CUP f (qcs lv ch A B C k i q) ∧ OCI f (qcs lv ch A B C k i q) := by
  intro k
  induction k with
  | zero => intro i q _ h1 h2; exact ⟨h1, h2⟩
  | succ k ih =>
    intro i q hi h1 h2
    refine ih (i + 1) _ (by omega) ?_ ?_
    all_goals
      by_cases hb' : bt ch i = true
      · rw [if_pos hb']
        have hd := hD i (by omega)
        by_cases hlv : i < lv
        · rw [decide_eq_true hlv] at hd ⊢
          first
            | exact (qch_L h1 h2 hd).1
            | exact (qch_L h1 h2 hd).2
        · rw [decide_eq_false hlv] at hd ⊢
          first
            | exact (qch_U h1 h2 hd).1
            | exact (qch_U h1 h2 hd).2
      · rw [if_neg hb']
        first
          | exact h1
          | exact h2
theorem goR_end {g c : Nat → Bool} : ∀ k e, goR g c k e = e + k ∨ (g (goR g c k e) = false ∨ c (goR g c k e) = true) := by
  intro k
  induction k with
  | zero => intro e; exact Or.inl rfl
  | succ k ih =>
    intro e
    by_cases h : g e = true ∧ c e = false
    · have e1 : goR g c (k + 1) e = goR g c k (e + 1) := if_pos h
      rw [e1]
      rcases ih (e + 1) with w | w
      · left; omega
      · exact Or.inr w
    · have e1 : goR g c (k + 1) e = e := if_neg h
      rw [e1]
      right
      cases hg : g e
      · exact Or.inl rfl
      · right
        cases hc : c e
        · exact absurd ⟨hg, hc⟩ h
        · rfl
theorem goL_end {g c : Nat → Bool} : ∀ e, goL g c e = 0 ∨ (g (goL g c e - 1) = false ∨ c (goL g c e) = true) := by
  intro e
  induction e with
  | zero => exact Or.inl rfl
  | succ e ih =>
    by_cases h : g e = true ∧ c (e + 1) = false
    · have e1 : goL g c (e + 1) = goL g c e := if_pos h
      rw [e1]; exact ih
    · have e1 : goL g c (e + 1) = e + 1 := if_neg h
      rw [e1]
      right
      cases hg : g e
      · left; rw [Nat.add_sub_cancel]; exact hg
      · right
        cases hc : c (e + 1)
        · exact absurd ⟨hg, hc⟩ h
        · rfl
theorem goL_lt {g c : Nat → Bool} : ∀ e, goL g c e ≤ e := by
  intro e
  induction e with
  | zero => exact Nat.le_refl _
  | succ e ih =>
    show (if g e = true ∧ c (e + 1) = false then goL g c e else e + 1) ≤ e + 1
    split <;> omega
theorem qfrom_I {x y : Nat} {inn : Int32} (hinn : ∀ t, t < 16 → bt inn t = innr f true y t) (h : CUP f q) (hc : crn f x y = true) (hx : 1 ≤ x ∧ x ≤ 15) (hy : 1 ≤ y ∧ y ≤ 15) : (CUP f (qfrom q x y inn) ∧ RSc f (qfrom q x y inn) x y) ∧ (∀ y' x', x' ≤ 16 → (hB q y' x' = true → hB (qfrom q x y inn) y' x' = true) ∧ vB (qfrom q x y inn) y' x' = vB q y' x' ∧ oB (qfrom q x y inn) y' x' = oB q y' x') := by
  have hnF : ¬ F4 f x y := fun z => by rw [crn_F4 z] at hc; exact absurd hc (by decide)
  unfold qfrom
  by_cases hin : bt inn x = true
  · rw [if_pos hin]
    have g1 : x + 1 ≤ goR (bt inn) (bt (q.2.2.1 y)) (15 - x) (x + 1) := goR_ge _ _
    have g2 := goR_le (g := bt inn) (c := bt (q.2.2.1 y)) (15 - x) (x + 1)
    have g3 := goR_end (g := bt inn) (c := bt (q.2.2.1 y)) (15 - x) (x + 1)
    generalize goR (bt inn) (bt (q.2.2.1 y)) (15 - x) (x + 1) = t at g1 g2 g3 ⊢
    have hb' := fun y' x' (hx' : x' ≤ 16) => qlev_b (q := q) (y := y) (s := x) (t := t) (y' := y') (x := x') (by omega) (by omega) (by omega)
    refine ⟨⟨CUP_lev h (by omega) (by omega) (Or.inl hnF) ?_, Or.inl ?_⟩, fun y' x' hx' => ⟨fun w => (hb' y' x' hx').1.mpr (Or.inl w), (hb' y' x' hx').2.1, (hb' y' x' hx').2.2.2⟩⟩
    · rcases g3 with w | w | w
      · left; intro z; have := z.1.1; omega
      · by_cases h16 : t = 16
        · left; intro z; have := z.1.1; omega
        · left
          intro z
          rw [hinn t (by omega), inL_n (by omega) hy, z.2.2.2, z.2.1.2] at w
          exact absurd w (by decide)
      · right; exact w
    · rw [← hinn x (by omega), if_pos hin]
      exact (hb' y x (by omega)).1.mpr (Or.inr ⟨rfl, by omega, by omega⟩)
  · rw [if_neg hin]
    have g2 := goL_lt (g := bt inn) (c := bt (q.2.2.1 y)) (x - 1)
    have g3 := goL_end (g := bt inn) (c := bt (q.2.2.1 y)) (x - 1)
    generalize goL (bt inn) (bt (q.2.2.1 y)) (x - 1) = s at g2 g3 ⊢
    have hb' := fun y' x' (hx' : x' ≤ 16) => qlev_b (q := q) (y := y) (s := s) (t := x) (y' := y') (x := x') (by omega) (by omega) (by omega)
    refine ⟨⟨CUP_lev h (by omega) (by omega) ?_ (Or.inl hnF), Or.inl ?_⟩, fun y' x' hx' => ⟨fun w => (hb' y' x' hx').1.mpr (Or.inl w), (hb' y' x' hx').2.1, (hb' y' x' hx').2.2.2⟩⟩
    · rcases g3 with w | w | w
      · left; intro z; have := z.1.1; omega
      · left
        intro z
        rw [hinn (s - 1) (by omega), inL_n (by omega) hy, z.2.2.1, z.2.1.1] at w
        exact absurd w (by decide)
      · right; exact w
    · rw [← hinn x (by omega), if_neg hin]
      exact (hb' y (x - 1) (by omega)).1.mpr (Or.inr ⟨rfl, by omega, by omega⟩)
/-- corners that stand before a place are done -/
def ODN (f : Nat → Int32) (q : QS) (k : Nat) : Prop := ∀ x y, x ≤ 16 → y ≤ 16 → crn f x y = true → RSc f q x y ∨ (k ≤ 17 * y + x ∧ oB q y x = true)
theorem qcx_I {y : Nat} {inn : Int32} (hinn : ∀ t, t < 16 → bt inn t = innr f true y t) (hy : 1 ≤ y ∧ y ≤ 15) (hoc : ∀ q : QS, ∀ x, oB q y x = true → True) : ∀ k x q, x + k = 16 → 1 ≤ x → CUP f q → ODN f q (17 * y + x) → (∀ x, x ≤ 16 → oB q y x = true → crn f x y = true) → CUP f (qcx inn y k x q) ∧ ODN f (qcx inn y k x q) (17 * y + 16) ∧ ∀ y' x', x' ≤ 16 → oB (qcx inn y k x q) y' x' = oB q y' x' := by
  intro k
  induction k with
  | zero => intro x q hx _ h1 h2 _; rw [show x = 16 by omega] at h2; exact ⟨h1, h2, fun _ _ _ => rfl⟩
  | succ k ih =>
    intro x q hx hx1 h1 h2 h3
    show CUP f (qcx inn y k (x + 1) (if bt (q.2.2.2 y) x = true then qfrom q x y inn else q)) ∧ ODN f (qcx inn y k (x + 1) (if bt (q.2.2.2 y) x = true then qfrom q x y inn else q)) (17 * y + 16) ∧ ∀ y' x', x' ≤ 16 → oB (qcx inn y k (x + 1) (if bt (q.2.2.2 y) x = true then qfrom q x y inn else q)) y' x' = oB q y' x'
    by_cases hb' : bt (q.2.2.2 y) x = true
    · rw [if_pos hb']
      have hF := qfrom_I hinn h1 (h3 x (by omega) hb') (by omega) hy
      have h4 := ih (x + 1) (qfrom q x y inn) (by omega) (by omega) hF.1.1 (fun x' y' a1 a2 a3 => ?_) (fun x' hx' w => h3 x' hx' (by rw [← (hF.2 y x' hx').2.2]; exact w))
      · exact ⟨h4.1, h4.2.1, fun y' x' hx' => (h4.2.2 y' x' hx').trans (hF.2 y' x' hx').2.2⟩
      · by_cases e1 : y' = y ∧ x' = x
        · rw [e1.1, e1.2]; exact Or.inl hF.1.2
        · rcases h2 x' y' a1 a2 a3 with w | ⟨w1, w2⟩
          · exact Or.inl (RSc_mono (fun y2 x2 hx2 v => (hF.2 y2 x2 hx2).1 v) (fun y2 x2 hx2 v => by rw [(hF.2 y2 x2 hx2).2.1]; exact v) a1 w)
          · exact Or.inr ⟨by omega, by rw [(hF.2 y' x' a1).2.2]; exact w2⟩
    · rw [if_neg hb']
      refine ih (x + 1) q (by omega) (by omega) h1 (fun x' y' a1 a2 a3 => ?_) h3
      rcases h2 x' y' a1 a2 a3 with w | ⟨w1, w2⟩
      · exact Or.inl w
      · refine Or.inr ⟨?_, w2⟩
        by_cases e1 : y' = y ∧ x' = x
        · rw [e1.1, e1.2] at w2; exact absurd w2 hb'
        · omega
theorem qcy_I {Iv : Nat → Int32} (hI : ∀ y t, 1 ≤ y → y ≤ 15 → t < 16 → bt (Iv y) t = innr f true y t) : ∀ k y q, y + k = 16 → 1 ≤ y → CUP f q → ODN f q (17 * y) → (∀ y x, y ≤ 16 → x ≤ 16 → oB q y x = true → crn f x y = true) → CUP f (qcy Iv k y q) ∧ ∀ x2 y2, x2 ≤ 16 → y2 ≤ 16 → crn f x2 y2 = true → RSc f (qcy Iv k y q) x2 y2 := by
  intro k
  induction k with
  | zero =>
    intro y q hy _ h1 h2 _
    refine ⟨h1, fun x y' a1 a2 a3 => ?_⟩
    rcases h2 x y' a1 a2 a3 with w | ⟨w, -⟩
    · exact w
    · have := crn_15 a3 a1 a2; omega
  | succ k ih =>
    intro y q hy hy1 h1 h2 h3
    have h4 := qcx_I (y := y) (inn := Iv y) (fun t ht => hI y t hy1 (by omega) ht) (by omega) (fun _ _ _ => trivial) 15 1 q (by omega) (by omega) h1 (fun x' y' a1 a2 a3 => by
      rcases h2 x' y' a1 a2 a3 with w | ⟨w1, w2⟩
      · exact Or.inl w
      · have := crn_15 a3 a1 a2
        exact Or.inr ⟨by omega, w2⟩) (fun x hx w => h3 y x (by omega) hx w)
    refine ih (y + 1) (qcx (Iv y) y 15 1 q) (by omega) (by omega) h4.1 (fun x' y' a1 a2 a3 => ?_) (fun y' x' a1 a2 w => h3 y' x' a1 a2 (by rw [← h4.2.2 y' x' a2]; exact w))
    rcases h4.2.1 x' y' a1 a2 a3 with w | ⟨w1, w2⟩
    · exact Or.inl w
    · have := crn_15 a3 a1 a2
      exact Or.inr ⟨by omega, w2⟩
def OH (f : Nat → Int32) (q : QS) (y x : Nat) : Prop := (bt (f y) (x - 1) = true ∧ bt (f y) x = true) ∧ ¬ vB q y x = true
def OV (f : Nat → Int32) (q : QS) (y x : Nat) : Prop := (bt (f (y - 1)) x = true ∧ bt (f y) x = true) ∧ ¬ hB q y x = true
/-- no corner is left open -/
def LPr (f : Nat → Int32) (q : QS) : Prop := ∀ x y, 1 ≤ x ∧ x ≤ 15 → 1 ≤ y ∧ y ≤ 15 → ((OH f q (y - 1) x ∧ OV f q y (x - 1) → OH f q y x ∧ OV f q y x) ∧ (OH f q (y - 1) x ∧ OV f q y x → OH f q y x ∧ OV f q y (x - 1))) ∧ ((OH f q y x ∧ OV f q y (x - 1) → OH f q (y - 1) x ∧ OV f q y x) ∧ (OH f q y x ∧ OV f q y x → OH f q (y - 1) x ∧ OV f q y (x - 1)))
theorem LP_of (h : CUP f q) (hR : ∀ x y, x ≤ 16 → y ≤ 16 → crn f x y = true → RSc f q x y) : LPr f q := by
  intro x y hx hy
  obtain ⟨h1, h2, h3⟩ := h
  have hr := hR x y (by omega) (by omega)
  rw [crn_n hx hy] at hr
  unfold RSc at hr
  rw [inL_n (by omega) hy, inU_n hx (by omega)] at hr
  have p1 := h1 y x (by omega) (by omega)
  have p2 := h1 y (x - 1) (by omega) (by omega)
  rw [show x - 1 + 1 = x by omega] at p2
  have p3 := h2 y x (by omega) (by omega)
  have p4 := h2 (y - 1) x (by omega) (by omega)
  rw [show y - 1 + 1 = y by omega] at p4
  have p5 := h3 x y
  unfold F4 at p5
  unfold OH OV
  revert hr p1 p2 p3 p4 p5
  generalize bt (f (y - 1)) (x - 1) = a
  generalize bt (f (y - 1)) x = b
  generalize bt (f y) (x - 1) = c
  generalize bt (f y) x = e
  generalize hB q y x = h
  generalize hB q y (x - 1) = h'
  generalize vB q y x = v
  generalize vB q (y - 1) x = v'
  generalize pB q y x = p
  intro hr p1 p2 p3 p4 p5
  have p5 := fun w => p5 ⟨⟨hx, hy⟩, w⟩
  clear hx hy h1 h2 h3 hR
  revert hr p1 p2 p3 p4 p5
  cases a <;> cases b <;> cases c <;> cases e <;> cases h <;> cases h' <;> cases v <;> cases v' <;> cases p <;> simp (config := {decide := true})
end P68
