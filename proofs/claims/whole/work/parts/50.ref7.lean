/-! ===== the reference's own calls, VI: read ===== -/
theorem ups_e {sh : Nat → Nat → Int32} {s : Nat} {f : Nat → Int32} : ups sh s f s = f := if_pos rfl
theorem ups_u {sh : Nat → Nat → Int32} {s : Nat} {f g : Nat → Int32} : ups (ups sh s f) s g = ups sh s g := by
  funext t
  unfold ups
  by_cases h : t = s
  · rw [if_pos h, if_pos h]
  · rw [if_neg h, if_neg h, if_neg h]
theorem CR_cg {A : AS} {sh : Nat → Nat → Int32} {s : Nat} {f g : Nat → Int32} (h : CRl A (ups sh s f)) (hg : ∀ y x, y < 16 → x < 16 → bt (g y) x = bt (f y) x) : CRl A (ups sh s g) := by
  intro t y x ht hy hx
  rw [h t y x ht hy hx]
  unfold ups
  by_cases hq : t = s
  · rw [if_pos hq, if_pos hq, hg y x hy hx]
  · rw [if_neg hq, if_neg hq]
def bo (n : Nat) (p : Nat → Int32) (i : Nat) : Int32 := if i < n then p i else (-1)
def rg (n : Nat) (p : Nat → Int32) (k : Nat) (r : RS) (f : Nat → Int32) : Int32 × RA := rdg p (n - k) k (true, r, f)
theorem rg_hit {n k : Nat} {p : Nat → Int32} {r r' : RS} {f f' : Nat → Int32} (hk : k < n) (h : acc (p k) r f = (true, r', f')) : rg n p k r f = rg n p (k + 1) r' f' := by
  unfold rg
  rw [show n - k = (n - (k + 1)) + 1 by omega]
  show (if (acc (p k) r f).1 = true then rdg p (n - (k + 1)) (k + 1) (acc (p k) r f) else ((-1) - nI k, acc (p k) r f)) = _
  rw [h, if_pos rfl]
theorem rg_bad {n k : Nat} {p : Nat → Int32} {r : RS} {f : Nat → Int32} (hk : k < n) (h : (acc (p k) r f).1 = false) : (rg n p k r f).1 = (-1) - nI k := by
  unfold rg
  rw [show n - k = (n - (k + 1)) + 1 by omega]
  show (if (acc (p k) r f).1 = true then rdg p (n - (k + 1)) (k + 1) (acc (p k) r f) else ((-1) - nI k, acc (p k) r f)).1 = _
  rw [h, if_neg (by decide)]
theorem rg_end {n k : Nat} {p : Nat → Int32} {r : RS} {f : Nat → Int32} (hk : n ≤ k) (h : ¬ r.due = 8) : (rg n p k r f).1 = (-1) - nI k := by
  unfold rg
  rw [show n - k = 0 by omega]
  exact if_neg h
theorem rg_fin {n k : Nat} {p : Nat → Int32} {r : RS} {f : Nat → Int32} (hk : n ≤ k) (h : r.due = 8) : rg n p k r f = (r.tot, true, r, f) := by
  unfold rg
  rw [show n - k = 0 by omega]
  show ((if r.due = 8 then r.tot else (-1) - nI k), true, r, f) = _
  rw [if_pos h]
theorem mI_t {k : Nat} (hk : k < 1000) (c : Int32) (hc : -100 ≤ c.toInt ∧ c.toInt ≤ 0) : (c - nI k).toInt = c.toInt - k := by
  rw [i_sub (by rw [i_n _ (by omega)]; omega), i_n _ (by omega)]
theorem m_2 {k : Nat} (hk : k < 900) : (-2 : Int32) - nI k = (-1) - nI (k + 1) := by
  rw [i_eq, mI_t (by omega) _ (by decide), mI_t (by omega) _ (by decide), show (-2 : Int32).toInt = -2 from rfl, show (-1 : Int32).toInt = -1 from rfl]
  omega
theorem m_3 {k : Nat} (hk : k < 900) : (-3 : Int32) - nI k = (-1) - nI (k + 2) := by
  rw [i_eq, mI_t (by omega) _ (by decide), mI_t (by omega) _ (by decide), show (-3 : Int32).toInt = -3 from rfl, show (-1 : Int32).toInt = -1 from rfl]
  omega
theorem m_4 {k : Nat} (hk : k < 900) : (-4 : Int32) - nI k = (-1) - nI (k + 3) := by
  rw [i_eq, mI_t (by omega) _ (by decide), mI_t (by omega) _ (by decide), show (-4 : Int32).toInt = -4 from rfl, show (-1 : Int32).toInt = -1 from rfl]
  omega
theorem m_5 {k : Nat} (hk : k < 900) : (-5 : Int32) - nI k = (-1) - nI (k + 4) := by
  rw [i_eq, mI_t (by omega) _ (by decide), mI_t (by omega) _ (by decide), show (-5 : Int32).toInt = -5 from rfl, show (-1 : Int32).toInt = -1 from rfl]
  omega
theorem m_neg {k : Nat} (hk : k < 900) : ((-1 : Int32) - nI k).toInt < 0 := by
  rw [mI_t (by omega) _ (by decide), show (-1 : Int32).toInt = -1 from rfl]
  omega
theorem sgn_t {b : Nat} (hb' : b ≤ 255) : -128 ≤ (sgn (nI b)).toInt ∧ (sgn (nI b)).toInt ≤ 127 := by
  unfold sgn
  split
  · rename_i h
    rw [i_lt, i_n _ (by omega), i_n _ (by omega)] at h
    rw [i_n _ (by omega)]
    omega
  · rename_i h
    rw [i_lt, i_n _ (by omega), i_n _ (by omega)] at h
    rw [i_sub (by rw [i_n _ (by omega), i_n _ (by omega)]; omega), i_n _ (by omega), i_n _ (by omega)]
    omega
theorem mul_b {c b : Int} (h1 : 0 ≤ c ∧ c ≤ 255) (h2 : -128 ≤ b ∧ b ≤ 127) : -32640 ≤ c * b ∧ c * b ≤ 32640 := by
  constructor
  · have := Int.mul_le_mul_of_nonneg_left (show -b ≤ 128 by omega) h1.1
    rw [Int.mul_neg] at this
    have h3 : c * 128 ≤ 255 * 128 := Int.mul_le_mul_of_nonneg_right h1.2 (by omega)
    omega
  · have := Int.mul_le_mul_of_nonneg_left (show b ≤ 128 by omega) h1.1
    have h3 : c * 128 ≤ 255 * 128 := Int.mul_le_mul_of_nonneg_right h1.2 (by omega)
    omega
theorem stp_t {x i : Nat} {D : Int32} (hx : x ≤ 255) (hi : i ≤ 255) (hD : -128 ≤ D.toInt ∧ D.toInt ≤ 127) : (nI x + nI i * D).toInt = (x : Int) + (i : Int) * D.toInt := by
  have hm := mul_b (c := (i : Int)) (by omega) hD
  have e1 : (nI i * D).toInt = (i : Int) * D.toInt := by rw [i_mul (by rw [i_n _ (by omega)]; omega), i_n _ (by omega)]
  rw [i_add (by rw [e1, i_n _ (by omega)]; omega), e1, i_n _ (by omega)]
theorem cm1 {c : Nat} (hc : 1 ≤ c ∧ c ≤ 255) : nI c - nI 1 = nI (c - 1) := by
  rw [i_eq, i_sub (by rw [i_n _ (by omega), ik_1]; omega), i_n _ (by omega), ik_1, i_n _ (by omega)]
  omega
theorem s16 {w : Nat} (hw : w ≤ 16) : nI 16 - nI w = nI (16 - w) := by
  rw [i_eq, i_sub (by rw [ik_16, i_n w (by omega)]; omega), ik_16, i_n w (by omega), i_n _ (by omega)]
  omega
theorem eop_iff {c x w : Nat} {D : Int32} (hc : 1 ≤ c ∧ c ≤ 255) (hx : x ≤ 255) (hw : w ≤ 16) (hD : -128 ≤ D.toInt ∧ D.toInt ≤ 127) : eop (nI c) (nI x) D (nI w) = decide (0 ≤ (x : Int) + ((c - 1 : Nat) : Int) * D.toInt ∧ (x : Int) + ((c - 1 : Nat) : Int) * D.toInt ≤ 16 - w) := by
  unfold eop
  rw [cm1 hc, s16 hw]
  refine decide_eq_decide.mpr ?_
  rw [i_le, i_le, stp_t hx (by omega) hD, i_0, i_n _ (by omega)]
  omega
theorem conv {X D c i m : Int} (h0 : 0 ≤ X ∧ X ≤ m) (h1 : 0 ≤ X + c * D ∧ X + c * D ≤ m) (hi : 0 ≤ i ∧ i ≤ c) : 0 ≤ X + i * D ∧ X + i * D ≤ m := by
  by_cases hD : 0 ≤ D
  · have := Int.mul_le_mul_of_nonneg_right hi.2 hD
    have := Int.mul_nonneg hi.1 hD
    omega
  · have h2 : 0 ≤ -D := by omega
    have h3 := Int.mul_le_mul_of_nonneg_right hi.2 h2
    have h4 := Int.mul_nonneg hi.1 h2
    rw [Int.mul_neg, Int.mul_neg] at h3
    rw [Int.mul_neg] at h4
    omega
/-- the state of a line's beginning -/
def RQ (r : RS) (w h j tot : Nat) : Prop := r.due = (if 0 < j then 3 else 0) ∧ r.w = nI w ∧ r.h = nI h ∧ r.ln = nI j ∧ r.tot = nI tot
def rl3 (r : RS) (x y : Int32) : RS := ⟨5, r.w, r.h, r.ln, x, y, nI 1, nI 0, nI 0, r.tot⟩
def rl5 (r : RS) (x y c dx dy : Int32) : RS := ⟨7, r.w, r.h, r.ln, x, y, c, dx, dy, r.tot⟩
theorem RQ_fin {r q : RS} {w h j tot : Nat} {c : Nat} (hr : RQ r w h (j + 1) tot) (hj : j < 1000) (hq : q.w = r.w ∧ q.h = r.h ∧ q.ln = r.ln ∧ q.tot = r.tot ∧ q.cp = nI c) : RQ (rfin q) w h j (tot + c) := by
  obtain ⟨h1, h2, h3, h4, h5⟩ := hr
  obtain ⟨q1, q2, q3, q4, q5⟩ := hq
  have e1 : q.ln - nI 1 = nI j := by
    rw [q3, h4, i_eq, i_sub (by rw [i_n _ (by omega), ik_1]; omega), i_n _ (by omega), ik_1, i_n _ (by omega)]
    omega
  refine ⟨?_, q1.trans h2, q2.trans h3, e1, ?_⟩
  · show (if 0 < q.ln - nI 1 then 3 else 0) = _
    rw [e1]
    by_cases hz : 0 < j
    · rw [if_pos hz, if_pos (by rw [i_lt, i_0, i_n _ (by omega)]; omega)]
    · rw [if_neg hz, if_neg (by rw [i_lt, i_0, i_n _ (by omega)]; omega)]
  · show q.tot + q.cp = _
    rw [q4, q5, h5, nI_add]
/-- what a line answers -/
def LNR (n : Nat) (p : Nat → Int32) (b : Nat → Nat) (k w h : Nat) (r : RS) (f : Nat → Int32) (z : Int32) : Prop :=
  (z.toInt < 0 ∧ (rg n p k r f).1 = z) ∨
  ((k + 3 ≤ n ∧ b k + w ≤ 16 ∧ b (k + 1) + h ≤ 16) ∧ ((z = nI 3 ∧ b (k + 2) = 1 ∧ rg n p k r f = rg n p (k + 3) (rfin (rl3 r (p k) (p (k + 1)))) (rff (rl3 r (p k) (p (k + 1))) f)) ∨
   (z = nI 5 ∧ k + 5 ≤ n ∧ 2 ≤ b (k + 2) ∧ (eop (p (k + 2)) (p k) (sgn (p (k + 3))) (nI w) = true ∧ eop (p (k + 2)) (p (k + 1)) (sgn (p (k + 4))) (nI h) = true) ∧ rg n p k r f = rg n p (k + 5) (rfin (rl5 r (p k) (p (k + 1)) (p (k + 2)) (sgn (p (k + 3))) (sgn (p (k + 4))))) (rff (rl5 r (p k) (p (k + 1)) (p (k + 2)) (sgn (p (k + 3))) (sgn (p (k + 4)))) f))))
section PL
variable {n k w h : Nat} {p : Nat → Int32} {b : Nat → Nat} {r : RS} {f : Nat → Int32} {j tot : Nat}
theorem ln_1 (hn : n ≤ 400) (hk : k ≤ n) (hp : ∀ i, i < n → p i = nI (b i) ∧ b i ≤ 255) (hr : RQ r w h (j + 1) tot) (hw : w ≤ 16) (hz : ¬ (k < n ∧ b k + w ≤ 16)) : LNR n p b k w h r f ((-1) - nI k) := by
  have hd : r.due = 3 := hr.1
  refine Or.inl ⟨m_neg (by omega), ?_⟩
  by_cases hkn : k < n
  · refine rg_bad hkn ?_
    rw [acc_3 hd]
    refine decide_eq_false ?_
    rw [(hp k hkn).1, hr.2.1, s16 hw, i_le, i_n _ (by have := (hp k hkn).2; omega), i_n _ (by omega)]
    omega
  · exact rg_end (by omega) (by rw [hd]; decide)
theorem ln_2 (hn : n ≤ 400) (hk : k < n) (hp : ∀ i, i < n → p i = nI (b i) ∧ b i ≤ 255) (hr : RQ r w h (j + 1) tot) (hw : w ≤ 16) (hh : h ≤ 16) (hx : b k + w ≤ 16) (hz : ¬ (k + 1 < n ∧ b (k + 1) + h ≤ 16)) : LNR n p b k w h r f ((-2) - nI k) := by
  have hd : r.due = 3 := hr.1
  rw [m_2 (by omega)]
  refine Or.inl ⟨m_neg (by omega), ?_⟩
  rw [rg_hit hk (r' := ⟨4, r.w, r.h, r.ln, p k, r.y, r.cp, r.dx, r.dy, r.tot⟩) (f' := f) (by
    rw [acc_3 hd, decide_eq_true (by rw [(hp k hk).1, hr.2.1, s16 hw, i_le, i_n _ (by omega), i_n _ (by omega)]; omega)])]
  by_cases hkn : k + 1 < n
  · refine rg_bad hkn ?_
    rw [acc_4 rfl]
    refine decide_eq_false ?_
    show ¬ p (k + 1) ≤ nI 16 - r.h
    rw [(hp _ hkn).1, hr.2.2.1, s16 hh, i_le, i_n _ (by have := (hp _ hkn).2; omega), i_n _ (by omega)]
    omega
  · exact rg_end (by omega) (show ¬ (4 : Nat) = 8 by decide)
theorem ln_b (hk : k + 1 < n) (hp : ∀ i, i < n → p i = nI (b i) ∧ b i ≤ 255) (hr : RQ r w h (j + 1) tot) (hw : w ≤ 16) (hh : h ≤ 16) (hx : b k + w ≤ 16) (hy : b (k + 1) + h ≤ 16) : rg n p k r f = rg n p (k + 2) ⟨5, r.w, r.h, r.ln, p k, p (k + 1), r.cp, r.dx, r.dy, r.tot⟩ f := by
  have hd : r.due = 3 := hr.1
  rw [rg_hit (show k < n by omega) (r' := ⟨4, r.w, r.h, r.ln, p k, r.y, r.cp, r.dx, r.dy, r.tot⟩) (f' := f) (by
    rw [acc_3 hd, decide_eq_true (by rw [(hp k (by omega)).1, hr.2.1, s16 hw, i_le, i_n _ (by omega), i_n _ (by omega)]; omega)]),
   rg_hit hk (r' := ⟨5, r.w, r.h, r.ln, p k, p (k + 1), r.cp, r.dx, r.dy, r.tot⟩) (f' := f) (by
    rw [acc_4 rfl, decide_eq_true (by show p (k + 1) ≤ nI 16 - r.h; rw [(hp _ hk).1, hr.2.2.1, s16 hh, i_le, i_n _ (by omega), i_n _ (by omega)]; omega)])]
theorem ln_3 (hn : n ≤ 400) (hk : k + 1 < n) (hp : ∀ i, i < n → p i = nI (b i) ∧ b i ≤ 255) (hr : RQ r w h (j + 1) tot) (hw : w ≤ 16) (hh : h ≤ 16) (hx : b k + w ≤ 16) (hy : b (k + 1) + h ≤ 16) (hz : ¬ (k + 2 < n ∧ 1 ≤ b (k + 2))) : LNR n p b k w h r f ((-3) - nI k) := by
  rw [m_3 (by omega)]
  refine Or.inl ⟨m_neg (by omega), ?_⟩
  rw [ln_b hk hp hr hw hh hx hy]
  by_cases hkn : k + 2 < n
  · refine rg_bad hkn ?_
    have hb0 : b (k + 2) = 0 := by omega
    rw [acc_5 rfl, (hp _ hkn).1, hb0, if_neg (by decide)]
    show decide (nI 1 < nI 0) = false
    decide
  · exact rg_end (by omega) (show ¬ (5 : Nat) = 8 by decide)
theorem ln_ok3 (hk : k + 2 < n) (hp : ∀ i, i < n → p i = nI (b i) ∧ b i ≤ 255) (hr : RQ r w h (j + 1) tot) (hw : w ≤ 16) (hh : h ≤ 16) (hx : b k + w ≤ 16) (hy : b (k + 1) + h ≤ 16) (hz : b (k + 2) = 1) : LNR n p b k w h r f (nI 3) := by
  refine Or.inr ⟨⟨by omega, hx, hy⟩, Or.inl ⟨rfl, hz, ?_⟩⟩
  rw [ln_b (by omega) hp hr hw hh hx hy]
  refine rg_hit hk ?_
  rw [acc_5 rfl, (hp _ hk).1, hz, if_pos rfl]
  rfl
theorem ln_c (hk : k + 2 < n) (hp : ∀ i, i < n → p i = nI (b i) ∧ b i ≤ 255) (hr : RQ r w h (j + 1) tot) (hw : w ≤ 16) (hh : h ≤ 16) (hx : b k + w ≤ 16) (hy : b (k + 1) + h ≤ 16) (hz : 2 ≤ b (k + 2)) : rg n p k r f = rg n p (k + 3) ⟨6, r.w, r.h, r.ln, p k, p (k + 1), p (k + 2), nI 0, nI 0, r.tot⟩ f := by
  rw [ln_b (by omega) hp hr hw hh hx hy]
  refine rg_hit hk ?_
  have hb5 := (hp _ hk).2
  rw [acc_5 rfl, (hp _ hk).1, if_neg (fun q => by have := nI_inj (by omega) (by decide) q; omega), decide_eq_true (by rw [i_lt, ik_1, i_n _ (by omega)]; omega)]
theorem ln_4 (hn : n ≤ 400) (hk : k + 2 < n) (hp : ∀ i, i < n → p i = nI (b i) ∧ b i ≤ 255) (hr : RQ r w h (j + 1) tot) (hw : w ≤ 16) (hh : h ≤ 16) (hx : b k + w ≤ 16) (hy : b (k + 1) + h ≤ 16) (hz : 2 ≤ b (k + 2)) (hq : ¬ (k + 3 < n ∧ eop (p (k + 2)) (p k) (sgn (p (k + 3))) (nI w) = true)) : LNR n p b k w h r f ((-4) - nI k) := by
  rw [m_4 (by omega)]
  refine Or.inl ⟨m_neg (by omega), ?_⟩
  rw [ln_c hk hp hr hw hh hx hy hz]
  by_cases hkn : k + 3 < n
  · refine rg_bad hkn ?_
    rw [acc_6 rfl]
    show eop (p (k + 2)) (p k) (sgn (p (k + 3))) r.w = false
    rw [hr.2.1]
    exact Bool.eq_false_iff.mpr (fun z => hq ⟨hkn, z⟩)
  · exact rg_end (by omega) (show ¬ (6 : Nat) = 8 by decide)
theorem ln_d (hk : k + 3 < n) (hp : ∀ i, i < n → p i = nI (b i) ∧ b i ≤ 255) (hr : RQ r w h (j + 1) tot) (hw : w ≤ 16) (hh : h ≤ 16) (hx : b k + w ≤ 16) (hy : b (k + 1) + h ≤ 16) (hz : 2 ≤ b (k + 2)) (hq : eop (p (k + 2)) (p k) (sgn (p (k + 3))) (nI w) = true) : rg n p k r f = rg n p (k + 4) ⟨7, r.w, r.h, r.ln, p k, p (k + 1), p (k + 2), sgn (p (k + 3)), nI 0, r.tot⟩ f := by
  rw [ln_c (by omega) hp hr hw hh hx hy hz]
  refine rg_hit hk ?_
  rw [acc_6 rfl]
  show (eop (p (k + 2)) (p k) (sgn (p (k + 3))) r.w, _, _) = _
  rw [hr.2.1, hq]
theorem ln_5 (hn : n ≤ 400) (hk : k + 3 < n) (hp : ∀ i, i < n → p i = nI (b i) ∧ b i ≤ 255) (hr : RQ r w h (j + 1) tot) (hw : w ≤ 16) (hh : h ≤ 16) (hx : b k + w ≤ 16) (hy : b (k + 1) + h ≤ 16) (hz : 2 ≤ b (k + 2)) (hq : eop (p (k + 2)) (p k) (sgn (p (k + 3))) (nI w) = true) (hq2 : ¬ (k + 4 < n ∧ eop (p (k + 2)) (p (k + 1)) (sgn (p (k + 4))) (nI h) = true)) : LNR n p b k w h r f ((-5) - nI k) := by
  rw [m_5 (by omega)]
  refine Or.inl ⟨m_neg (by omega), ?_⟩
  rw [ln_d hk hp hr hw hh hx hy hz hq]
  by_cases hkn : k + 4 < n
  · refine rg_bad hkn ?_
    rw [acc_7 rfl]
    refine (congrArg Prod.fst (if_neg ?_)).trans rfl
    show ¬ eop (p (k + 2)) (p (k + 1)) (sgn (p (k + 4))) r.h = true
    rw [hr.2.2.1]
    exact fun z => hq2 ⟨hkn, z⟩
  · exact rg_end (by omega) (show ¬ (7 : Nat) = 8 by decide)
theorem ln_ok5 (hk : k + 4 < n) (hp : ∀ i, i < n → p i = nI (b i) ∧ b i ≤ 255) (hr : RQ r w h (j + 1) tot) (hw : w ≤ 16) (hh : h ≤ 16) (hx : b k + w ≤ 16) (hy : b (k + 1) + h ≤ 16) (hz : 2 ≤ b (k + 2)) (hq : eop (p (k + 2)) (p k) (sgn (p (k + 3))) (nI w) = true) (hq2 : eop (p (k + 2)) (p (k + 1)) (sgn (p (k + 4))) (nI h) = true) : LNR n p b k w h r f (nI 5) := by
  refine Or.inr ⟨⟨by omega, hx, hy⟩, Or.inr ⟨rfl, by omega, hz, ⟨hq, hq2⟩, ?_⟩⟩
  rw [ln_d (by omega) hp hr hw hh hx hy hz hq]
  refine rg_hit hk ?_
  rw [acc_7 rfl]
  refine (if_pos ?_).trans rfl
  show eop (p (k + 2)) (p (k + 1)) (sgn (p (k + 4))) r.h = true
  rw [hr.2.2.1]
  exact hq2
end PL
section P50
variable {S : mm_S} {d : Nat} {M : mm_M} {A : AS} {I : Nat → Int32} {sh : Nat → Nat → Int32} {o : OS} {l : LYS} {pi fa tp : IS}
set_option maxRecDepth 8000 in
theorem m150r {s : Nat} {r : R4} (hc : CRl A sh) (hs6 : s < 6) (hr : on4 r = true) : mm_R S (d + 1) 150 0 (mm_en 150 [.ref 73, .int (nI s), .int r.1, .int r.2.1, .int r.2.2.1, .int r.2.2.2]) [] (mdm M A I) (fun v M' => v = none ∧ ∃ F, M' = mdm M (upa A 74 F) I ∧ CRl (upa A 74 F) (ups sh s (add4 (sh s) r))) := by
  have hcr := CR_fill hc hs6 hr
  have g := of_decide_eq_true hr
  obtain ⟨x, y, w, h1⟩ := r
  dsimp only at g hcr ⊢
  obtain ⟨x, hx, rfl⟩ := i_ix (a := x) 16 (by decide) (by omega) (by omega)
  obtain ⟨y, hy, rfl⟩ := i_ix (a := y) 16 (by decide) (by omega) (by omega)
  obtain ⟨w, hw, rfl⟩ := i_ix (a := w) 17 (by decide) (by omega) (by omega)
  obtain ⟨h1, hh1, rfl⟩ := i_ix (a := h1) 17 (by decide) (by omega) (by omega)
  rw [i_n x (by omega), i_n y (by omega), i_n w (by omega), i_n h1 (by omega)] at g
  rw [cl_nI (by omega), cl_nI (by omega), cl_nI (by omega), cl_nI (by omega)] at hcr
  exact R_mono (m150 hs6 (by omega) (by omega)) (fun v M' hq => ⟨hq.1, _, hq.2, hcr⟩)
set_option maxRecDepth 8000 in
theorem m196 {n i : Nat} {p : Nat → Int32} (hn : n ≤ 400) (hI : I 48 = nI n) (hA : ∀ i, i < n → A 109 i = p i) (hi : i < 1000) : mm_R S (d + 0) 196 0 (mm_en 196 [.ref 73, .int (nI i)]) [] (mdm M A I) (fun v M' => v = some (.int (bo n p i)) ∧ M' = mdm M A I) := by
  show mm_R S (d + 0) 196 0 [some (.ref 73), some (.int (nI i))] [] (mdm M A I) _
  refine R_iload_n (q := 1) rfl rfl rfl ?_
  refine R_aload_n (q := 2) rfl rfl rfl ?_
  refine R_getf (q := 5) rfl rfl rfl md_73 rfl ?_
  rw [hI]
  refine R_icmp_ge (q := 8) (t := 17) rfl rfl rfl (fun h5 => ?_) (fun h5 => ?_)
  · refine R_iconst (q := 18) (v := (-1)) rfl rfl (by decide) ?_
    refine R_ireturn rfl rfl ?_
    unfold bo
    first
      | (rw [if_pos (nI_lt_of (by omega) h5)]; exact ⟨rfl, rfl⟩)
      | (rw [if_neg (nI_ge_of (by omega) (by omega) h5)]; exact ⟨rfl, rfl⟩)
  · refine R_aload_n (q := 9) rfl rfl rfl ?_
    refine R_getf (q := 12) rfl rfl rfl md_73 rfl ?_
    refine R_iload_n (q := 13) rfl rfl rfl ?_
    refine R_iaload (q := 14) rfl rfl md_109 (by decide) (in_nI (by have := nI_lt_of (by omega) h5; omega) (by decide)) ?_
    rw [cl_nI (by omega), hA i (nI_lt_of (by omega) h5)]
    refine R_goto (t := 18) rfl rfl ?_
    refine R_ireturn rfl rfl ?_
    unfold bo
    first
      | (rw [if_pos (nI_lt_of (by omega) h5)]; exact ⟨rfl, rfl⟩)
      | (rw [if_neg (nI_ge_of (by omega) (by omega) h5)]; exact ⟨rfl, rfl⟩)
set_option maxRecDepth 8000 in
theorem m198 {b : Int32} {M : mm_M} : mm_R S (d + 0) 198 0 (mm_en 198 [.int b]) [] M (fun v M' => v = some (.int (sgn b)) ∧ M' = M) := by
  show mm_R S (d + 0) 198 0 [some (.int b)] [] M _
  refine R_iload_n (q := 1) rfl rfl rfl ?_
  refine R_bipush (q := 3) (v := nI 127) rfl rfl (by decide) ?_
  refine R_icmp_le (q := 6) (t := 14) rfl rfl rfl (fun h3 => ?_) (fun h3 => ?_)
  · refine R_iload_n (q := 15) rfl rfl rfl ?_
    refine R_ireturn rfl rfl ?_
    unfold sgn
    refine ⟨congrArg some (congrArg Value.int ?_), rfl⟩
    first
      | exact (if_pos (by rw [i_le, ik_127] at h3; rw [i_lt, ik_128]; omega)).symm
      | exact (if_neg (by rw [i_le, ik_127] at h3; rw [i_lt, ik_128]; omega)).symm
  · refine R_iload_n (q := 7) rfl rfl rfl ?_
    refine R_sipush (q := 10) (v := nI 256) rfl rfl (by decide) ?_
    refine R_isub (q := 11) rfl rfl ?_
    refine R_goto (t := 15) rfl rfl ?_
    refine R_ireturn rfl rfl ?_
    unfold sgn
    refine ⟨congrArg some (congrArg Value.int ?_), rfl⟩
    first
      | exact (if_pos (by rw [i_le, ik_127] at h3; rw [i_lt, ik_128]; omega)).symm
      | exact (if_neg (by rw [i_le, ik_127] at h3; rw [i_lt, ik_128]; omega)).symm
set_option maxRecDepth 8000 in
theorem m197 {n k w h j tot : Nat} {p : Nat → Int32} {b : Nat → Nat} {r : RS} {f : Nat → Int32} (hn : n ≤ 400) (hI : I 48 = nI n) (hA : ∀ i, i < n → A 109 i = p i) (hk : k ≤ n) (hp : ∀ i, i < n → p i = nI (b i) ∧ b i ≤ 255) (hr : RQ r w h (j + 1) tot) (hw : 1 ≤ w ∧ w ≤ 16) (hh : 1 ≤ h ∧ h ≤ 16) : mm_R S (d + 1) 197 0 (mm_en 197 [.ref 73, .int (nI k), .int (nI w), .int (nI h)]) [] (mdm M A I) (fun v M' => ∃ z, v = some (.int z) ∧ M' = mdm M A I ∧ LNR n p b k w h r f z) := by
  show mm_R S (d + 1) 197 0 [some (.ref 73), some (.int (nI k)), some (.int (nI w)), some (.int (nI h)), none, none, none] [] (mdm M A I) _
  have hin : ∀ i w, w ≤ 16 → (decide ((nI 0).toInt ≤ (bo n p i).toInt ∧ (bo n p i).toInt ≤ (nI 16 - nI w).toInt) = true ↔ i < n ∧ b i + w ≤ 16) := by
    intro i w hw
    rw [decide_eq_true_iff, s16 hw, ik_0, i_n _ (by omega)]
    unfold bo
    by_cases hi : i < n
    · have := (hp i hi).2
      rw [if_pos hi, (hp i hi).1, i_n _ (by omega)]
      omega
    · rw [if_neg hi, ikm_1]
      omega
  have h1t : ∀ i, (nI 1 ≤ bo n p i ↔ i < n ∧ 1 ≤ b i) := by
    intro i
    rw [i_le, ik_1]
    unfold bo
    by_cases hi : i < n
    · have := (hp i hi).2
      rw [if_pos hi, (hp i hi).1, i_n _ (by omega)]
      omega
    · rw [if_neg hi, ikm_1]
      omega
  have hinD : ∀ (c x w : Nat) (D : Int32), 1 ≤ c ∧ c ≤ 255 → x ≤ 255 → w ≤ 16 → (decide ((nI 0).toInt ≤ (nI x + (nI c - nI 1) * D).toInt ∧ (nI x + (nI c - nI 1) * D).toInt ≤ (nI 16 - nI w).toInt) = eop (nI c) (nI x) D (nI w)) := by
    intro c x w D hc hx hw
    unfold eop
    refine decide_eq_decide.mpr ?_
    rw [i_le, i_le]
    rfl
  refine R_aload_n (q := 1) rfl rfl rfl ?_
  refine R_iload_n (q := 2) rfl rfl rfl ?_
  refine R_callv1 (q := 5) rfl rfl rfl rfl md_73 (Nat.le_of_ble_eq_true rfl) rfl ?_
  refine R_mono (m196 (i := k) hn hI hA (by omega)) (fun v2 M2 hr2 => ?_)
  obtain ⟨rfl, hm2⟩ := hr2
  rw [hm2]
  dsimp only [Option.toList, List.cons_append, List.nil_append]
  refine R_iconst (q := 6) (v := nI 0) rfl rfl (by decide) ?_
  refine R_bipush (q := 8) (v := nI 16) rfl rfl (by decide) ?_
  refine R_iload_n (q := 9) rfl rfl rfl ?_
  refine R_isub (q := 10) rfl rfl ?_
  refine R_calls3 (q := 13) rfl rfl rfl rfl (Nat.le_of_ble_eq_true rfl) rfl ?_
  refine R_mono (m147) (fun v10 M10 hr10 => ?_)
  obtain ⟨rfl, hm10⟩ := hr10
  rw [hm10]
  dsimp only [Option.toList, List.cons_append, List.nil_append]
  refine R_if_ne (q := 16) (t := 20) rfl rfl rfl (fun h13 => ?_) (fun h13 => ?_)
  · have g0 := (hin k w hw.2).mp (zb_ne0.mp h13)
    have g0a := g0.1
    have g0b := g0.2
    refine R_aload_n (q := 21) rfl rfl rfl ?_
    refine R_iload_n (q := 22) rfl rfl rfl ?_
    refine R_iconst (q := 23) (v := nI 1) rfl rfl (by decide) ?_
    refine R_iadd (q := 24) rfl rfl ?_
    rw [nI_add]
    refine R_callv1 (q := 27) rfl rfl rfl rfl md_73 (Nat.le_of_ble_eq_true rfl) rfl ?_
    refine R_mono (m196 (i := k + 1) hn hI hA (by omega)) (fun v24 M24 hr24 => ?_)
    obtain ⟨rfl, hm24⟩ := hr24
    rw [hm24]
    dsimp only [Option.toList, List.cons_append, List.nil_append]
    refine R_iconst (q := 28) (v := nI 0) rfl rfl (by decide) ?_
    refine R_bipush (q := 30) (v := nI 16) rfl rfl (by decide) ?_
    refine R_iload_n (q := 31) rfl rfl rfl ?_
    refine R_isub (q := 32) rfl rfl ?_
    refine R_calls3 (q := 35) rfl rfl rfl rfl (Nat.le_of_ble_eq_true rfl) rfl ?_
    refine R_mono (m147) (fun v32 M32 hr32 => ?_)
    obtain ⟨rfl, hm32⟩ := hr32
    rw [hm32]
    dsimp only [Option.toList, List.cons_append, List.nil_append]
    refine R_if_ne (q := 38) (t := 43) rfl rfl rfl (fun h35 => ?_) (fun h35 => ?_)
    · have g1 := (hin (k + 1) h hh.2).mp (zb_ne0.mp h35)
      have g1a := g1.1
      have g1b := g1.2
      refine R_aload_n (q := 44) rfl rfl rfl ?_
      refine R_iload_n (q := 45) rfl rfl rfl ?_
      refine R_iconst (q := 46) (v := nI 2) rfl rfl (by decide) ?_
      refine R_iadd (q := 47) rfl rfl ?_
      rw [nI_add]
      refine R_callv1 (q := 50) rfl rfl rfl rfl md_73 (Nat.le_of_ble_eq_true rfl) rfl ?_
      refine R_mono (m196 (i := k + 2) hn hI hA (by omega)) (fun v47 M47 hr47 => ?_)
      obtain ⟨rfl, hm47⟩ := hr47
      rw [hm47]
      dsimp only [Option.toList, List.cons_append, List.nil_append]
      refine R_istore (q := 52) rfl rfl (Nat.le_of_ble_eq_true rfl) rfl ?_
      dsimp only [List.set]
      refine R_iload (q := 54) rfl rfl rfl ?_
      refine R_iconst (q := 55) (v := nI 1) rfl rfl (by decide) ?_
      refine R_icmp_ge (q := 58) (t := 63) rfl rfl rfl (fun h55 => ?_) (fun h55 => ?_)
      · have g2 := (h1t (k + 2)).mp h55
        have g2a := g2.1
        have g2b := g2.2
        have g2c := (hp (k + 2) g2a).2
        have e2 : bo n p (k + 2) = nI (b (k + 2)) := (if_pos g2a).trans (hp (k + 2) g2a).1
        refine R_iload (q := 65) rfl rfl rfl ?_
        refine R_iconst (q := 66) (v := nI 1) rfl rfl (by decide) ?_
        refine R_icmp_ne (q := 69) (t := 71) rfl rfl rfl (fun h66 => ?_) (fun h66 => ?_)
        · have g3 : 2 ≤ b (k + 2) := by
            have : ¬ b (k + 2) = 1 := fun q => h66 (by rw [e2, q])
            omega
          rw [e2]
          have h173 : ∀ (lv : Bool) (v : Int32), (lv = true ↔ (k + 3 < n ∧ eop (nI (b (k + 2))) (p k) (sgn (p (k + 3))) (nI w) = true)) → (v = nI 1 ∧ (k + 4 < n ∧ eop (nI (b (k + 2))) (p (k + 1)) (sgn (p (k + 4))) (nI h) = true) ∨ v = nI 0 ∧ ¬ (k + 4 < n ∧ eop (nI (b (k + 2))) (p (k + 1)) (sgn (p (k + 4))) (nI h) = true)) → mm_R S (d + 1) 197 173 [some (.ref 73), some (.int (nI k)), some (.int (nI w)), some (.int (nI h)), some (.int (nI (b (k + 2)))), some (.int (zb lv)), none] [.int v] (mdm M A I) (fun v M' => ∃ z, v = some (.int z) ∧ M' = mdm M A I ∧ LNR n p b k w h r f z) := by
            intro lv v hlv hv
            rw [← (hp (k + 2) g2a).1] at hlv hv
            refine R_istore (q := 175) rfl rfl (Nat.le_of_ble_eq_true rfl) rfl ?_
            dsimp only [List.set]
            refine R_iload (q := 177) rfl rfl rfl ?_
            refine R_if_ne (q := 180) (t := 187) rfl rfl rfl (fun h177 => ?_) (fun h177 => ?_)
            · refine R_iload (q := 189) rfl rfl rfl ?_
              refine R_if_ne (q := 192) (t := 199) rfl rfl rfl (fun h189 => ?_) (fun h189 => ?_)
              · refine R_iconst (q := 200) (v := nI 5) rfl rfl (by decide) ?_
                refine R_ireturn rfl rfl ?_
                first
                  | (have q0 := zb_eq0.mp h177
                     exact ⟨_, rfl, rfl, ln_4 hn g2a hp hr hw.2 hh.2 g0b g1b g3 (fun q => absurd (hlv.mpr q) (by rw [q0]; decide))⟩)
                  | (have q9 : v = 0 := h189
                     exact ⟨_, rfl, rfl, ln_5 hn (hlv.mp (zb_ne0.mp h177)).1 hp hr hw.2 hh.2 g0b g1b g3 (hlv.mp (zb_ne0.mp h177)).2 (by rcases hv with ⟨q1, q2⟩ | ⟨q1, q2⟩; exact absurd (q1.symm.trans h189) (by decide); exact q2)⟩)
                  | (rcases hv with ⟨q1, q2⟩ | ⟨q1, q2⟩
                     · exact ⟨_, rfl, rfl, ln_ok5 q2.1 hp hr hw.2 hh.2 g0b g1b g3 (hlv.mp (zb_ne0.mp h177)).2 q2.2⟩
                     · exact absurd q1 h189)
              · refine R_bipush (q := 194) (v := (-5)) rfl rfl (by decide) ?_
                refine R_iload_n (q := 195) rfl rfl rfl ?_
                refine R_isub (q := 196) rfl rfl ?_
                refine R_goto (t := 200) rfl rfl ?_
                refine R_ireturn rfl rfl ?_
                first
                  | (have q0 := zb_eq0.mp h177
                     exact ⟨_, rfl, rfl, ln_4 hn g2a hp hr hw.2 hh.2 g0b g1b g3 (fun q => absurd (hlv.mpr q) (by rw [q0]; decide))⟩)
                  | (have q9 : v = 0 := h189
                     exact ⟨_, rfl, rfl, ln_5 hn (hlv.mp (zb_ne0.mp h177)).1 hp hr hw.2 hh.2 g0b g1b g3 (hlv.mp (zb_ne0.mp h177)).2 (by rcases hv with ⟨q1, q2⟩ | ⟨q1, q2⟩; exact absurd (q1.symm.trans h189) (by decide); exact q2)⟩)
                  | (rcases hv with ⟨q1, q2⟩ | ⟨q1, q2⟩
                     · exact ⟨_, rfl, rfl, ln_ok5 q2.1 hp hr hw.2 hh.2 g0b g1b g3 (hlv.mp (zb_ne0.mp h177)).2 q2.2⟩
                     · exact absurd q1 h189)
            · refine R_bipush (q := 182) (v := (-4)) rfl rfl (by decide) ?_
              refine R_iload_n (q := 183) rfl rfl rfl ?_
              refine R_isub (q := 184) rfl rfl ?_
              refine R_goto (t := 200) rfl rfl ?_
              refine R_ireturn rfl rfl ?_
              first
                | (have q0 := zb_eq0.mp h177
                   exact ⟨_, rfl, rfl, ln_4 hn g2a hp hr hw.2 hh.2 g0b g1b g3 (fun q => absurd (hlv.mpr q) (by rw [q0]; decide))⟩)
                | (have q9 : v = 0 := h189
                   exact ⟨_, rfl, rfl, ln_5 hn (hlv.mp (zb_ne0.mp h177)).1 hp hr hw.2 hh.2 g0b g1b g3 (hlv.mp (zb_ne0.mp h177)).2 (by rcases hv with ⟨q1, q2⟩ | ⟨q1, q2⟩; exact absurd (q1.symm.trans h189) (by decide); exact q2)⟩)
                | (rcases hv with ⟨q1, q2⟩ | ⟨q1, q2⟩
                   · exact ⟨_, rfl, rfl, ln_ok5 q2.1 hp hr hw.2 hh.2 g0b g1b g3 (hlv.mp (zb_ne0.mp h177)).2 q2.2⟩
                   · exact absurd q1 h189)
          have h120 : ∀ v : Int32, (v = nI 1 ∧ (k + 3 < n ∧ eop (nI (b (k + 2))) (p k) (sgn (p (k + 3))) (nI w) = true) ∨ v = nI 0 ∧ ¬ (k + 3 < n ∧ eop (nI (b (k + 2))) (p k) (sgn (p (k + 3))) (nI w) = true)) → mm_R S (d + 1) 197 120 [some (.ref 73), some (.int (nI k)), some (.int (nI w)), some (.int (nI h)), some (.int (nI (b (k + 2)))), none, none] [.int v] (mdm M A I) (fun v M' => ∃ z, v = some (.int z) ∧ M' = mdm M A I ∧ LNR n p b k w h r f z) := by
            intro v hv
            obtain ⟨lv, hlv, hve⟩ : ∃ lv : Bool, (lv = true ↔ (k + 3 < n ∧ eop (nI (b (k + 2))) (p k) (sgn (p (k + 3))) (nI w) = true)) ∧ v = zb lv := by
              rcases hv with ⟨q1, q2⟩ | ⟨q1, q2⟩
              · exact ⟨true, ⟨fun _ => q2, fun _ => rfl⟩, q1⟩
              · exact ⟨false, ⟨fun z => absurd z (by decide), fun z => absurd z q2⟩, q1⟩
            rw [hve]
            refine R_istore (q := 122) rfl rfl (Nat.le_of_ble_eq_true rfl) rfl ?_
            dsimp only [List.set]
            refine R_iload_n (q := 123) rfl rfl rfl ?_
            refine R_iconst (q := 124) (v := nI 4) rfl rfl (by decide) ?_
            refine R_iadd (q := 125) rfl rfl ?_
            rw [nI_add]
            refine R_aload_n (q := 126) rfl rfl rfl ?_
            refine R_getf (q := 129) rfl rfl rfl md_73 rfl ?_
            rw [hI]
            refine R_icmp_ge (q := 132) (t := 172) rfl rfl rfl (fun h129 => ?_) (fun h129 => ?_)
            · refine R_iconst (q := 173) (v := nI 0) rfl rfl (by decide) ?_
              refine h173 lv _ hlv ?_
              first
                | exact Or.inr ⟨rfl, fun q => nI_ge q.1 (by omega) h129⟩
                | exact Or.inl ⟨rfl, g4, zb_ne0.mp h165⟩
                | exact Or.inr ⟨rfl, fun q => absurd (q.2.symm.trans (zb_eq0.mp h165)) (by decide)⟩
            · have g4 : k + 4 < n := nI_lt_of (by omega) h129
              refine R_aload_n (q := 133) rfl rfl rfl ?_
              refine R_getf (q := 136) rfl rfl rfl md_73 rfl ?_
              refine R_iload_n (q := 137) rfl rfl rfl ?_
              refine R_iconst (q := 138) (v := nI 1) rfl rfl (by decide) ?_
              refine R_iadd (q := 139) rfl rfl ?_
              rw [nI_add]
              refine R_iaload (q := 140) rfl rfl md_109 (by decide) (by first | assumption | exact in_nI (by omega) (by decide)) ?_
              rw [cl_nI (by omega), hA (k + 1) (by omega), (hp (k + 1) (by omega)).1]
              refine R_iload (q := 142) rfl rfl rfl ?_
              refine R_iconst (q := 143) (v := nI 1) rfl rfl (by decide) ?_
              refine R_isub (q := 144) rfl rfl ?_
              refine R_aload_n (q := 145) rfl rfl rfl ?_
              refine R_getf (q := 148) rfl rfl rfl md_73 rfl ?_
              refine R_iload_n (q := 149) rfl rfl rfl ?_
              refine R_iconst (q := 150) (v := nI 4) rfl rfl (by decide) ?_
              refine R_iadd (q := 151) rfl rfl ?_
              rw [nI_add]
              refine R_iaload (q := 152) rfl rfl md_109 (by decide) (by first | assumption | exact in_nI (by omega) (by decide)) ?_
              rw [cl_nI (by omega), hA (k + 4) g4]
              refine R_calls1 (q := 155) rfl rfl rfl rfl (Nat.le_of_ble_eq_true rfl) rfl ?_
              refine R_mono (m198) (fun v152 M152 hr152 => ?_)
              obtain ⟨rfl, hm152⟩ := hr152
              rw [hm152]
              dsimp only [Option.toList, List.cons_append, List.nil_append]
              refine R_imul (q := 156) rfl rfl ?_
              refine R_iadd (q := 157) rfl rfl ?_
              refine R_iconst (q := 158) (v := nI 0) rfl rfl (by decide) ?_
              refine R_bipush (q := 160) (v := nI 16) rfl rfl (by decide) ?_
              refine R_iload_n (q := 161) rfl rfl rfl ?_
              refine R_isub (q := 162) rfl rfl ?_
              refine R_calls3 (q := 165) rfl rfl rfl rfl (Nat.le_of_ble_eq_true rfl) rfl ?_
              refine R_mono (m147) (fun v162 M162 hr162 => ?_)
              obtain ⟨rfl, hm162⟩ := hr162
              rw [hm162]
              dsimp only [Option.toList, List.cons_append, List.nil_append]
              rw [hinD _ _ _ _ (by omega) (hp (k + 1) (by omega)).2 hh.2, ← (hp (k + 1) (by omega)).1]
              refine R_if_eq (q := 168) (t := 172) rfl rfl rfl (fun h165 => ?_) (fun h165 => ?_)
              · refine R_iconst (q := 173) (v := nI 0) rfl rfl (by decide) ?_
                refine h173 lv _ hlv ?_
                first
                  | exact Or.inr ⟨rfl, fun q => nI_ge q.1 (by omega) h129⟩
                  | exact Or.inl ⟨rfl, g4, zb_ne0.mp h165⟩
                  | exact Or.inr ⟨rfl, fun q => absurd (q.2.symm.trans (zb_eq0.mp h165)) (by decide)⟩
              · refine R_iconst (q := 169) (v := nI 1) rfl rfl (by decide) ?_
                refine R_goto (t := 173) rfl rfl ?_
                refine h173 lv _ hlv ?_
                first
                  | exact Or.inr ⟨rfl, fun q => nI_ge q.1 (by omega) h129⟩
                  | exact Or.inl ⟨rfl, g4, zb_ne0.mp h165⟩
                  | exact Or.inr ⟨rfl, fun q => absurd (q.2.symm.trans (zb_eq0.mp h165)) (by decide)⟩
          refine R_iload_n (q := 72) rfl rfl rfl ?_
          refine R_iconst (q := 73) (v := nI 3) rfl rfl (by decide) ?_
          refine R_iadd (q := 74) rfl rfl ?_
          rw [nI_add]
          refine R_aload_n (q := 75) rfl rfl rfl ?_
          refine R_getf (q := 78) rfl rfl rfl md_73 rfl ?_
          rw [hI]
          refine R_icmp_ge (q := 81) (t := 119) rfl rfl rfl (fun h78 => ?_) (fun h78 => ?_)
          · refine R_iconst (q := 120) (v := nI 0) rfl rfl (by decide) ?_
            refine h120 _ ?_
            first
              | exact Or.inr ⟨rfl, fun q => nI_ge q.1 (by omega) h78⟩
              | exact Or.inl ⟨rfl, g4, zb_ne0.mp h112⟩
              | exact Or.inr ⟨rfl, fun q => absurd (q.2.symm.trans (zb_eq0.mp h112)) (by decide)⟩
          · have g4 : k + 3 < n := nI_lt_of (by omega) h78
            refine R_aload_n (q := 82) rfl rfl rfl ?_
            refine R_getf (q := 85) rfl rfl rfl md_73 rfl ?_
            refine R_iload_n (q := 86) rfl rfl rfl ?_
            refine R_iaload (q := 87) rfl rfl md_109 (by decide) (by first | assumption | exact in_nI (by omega) (by decide)) ?_
            rw [cl_nI (by omega), hA k (by omega), (hp k (by omega)).1]
            refine R_iload (q := 89) rfl rfl rfl ?_
            refine R_iconst (q := 90) (v := nI 1) rfl rfl (by decide) ?_
            refine R_isub (q := 91) rfl rfl ?_
            refine R_aload_n (q := 92) rfl rfl rfl ?_
            refine R_getf (q := 95) rfl rfl rfl md_73 rfl ?_
            refine R_iload_n (q := 96) rfl rfl rfl ?_
            refine R_iconst (q := 97) (v := nI 3) rfl rfl (by decide) ?_
            refine R_iadd (q := 98) rfl rfl ?_
            rw [nI_add]
            refine R_iaload (q := 99) rfl rfl md_109 (by decide) (by first | assumption | exact in_nI (by omega) (by decide)) ?_
            rw [cl_nI (by omega), hA (k + 3) g4]
            refine R_calls1 (q := 102) rfl rfl rfl rfl (Nat.le_of_ble_eq_true rfl) rfl ?_
            refine R_mono (m198) (fun v99 M99 hr99 => ?_)
            obtain ⟨rfl, hm99⟩ := hr99
            rw [hm99]
            dsimp only [Option.toList, List.cons_append, List.nil_append]
            refine R_imul (q := 103) rfl rfl ?_
            refine R_iadd (q := 104) rfl rfl ?_
            refine R_iconst (q := 105) (v := nI 0) rfl rfl (by decide) ?_
            refine R_bipush (q := 107) (v := nI 16) rfl rfl (by decide) ?_
            refine R_iload_n (q := 108) rfl rfl rfl ?_
            refine R_isub (q := 109) rfl rfl ?_
            refine R_calls3 (q := 112) rfl rfl rfl rfl (Nat.le_of_ble_eq_true rfl) rfl ?_
            refine R_mono (m147) (fun v109 M109 hr109 => ?_)
            obtain ⟨rfl, hm109⟩ := hr109
            rw [hm109]
            dsimp only [Option.toList, List.cons_append, List.nil_append]
            rw [hinD _ _ _ _ (by omega) (hp k (by omega)).2 hw.2, ← (hp k (by omega)).1]
            refine R_if_eq (q := 115) (t := 119) rfl rfl rfl (fun h112 => ?_) (fun h112 => ?_)
            · refine R_iconst (q := 120) (v := nI 0) rfl rfl (by decide) ?_
              refine h120 _ ?_
              first
                | exact Or.inr ⟨rfl, fun q => nI_ge q.1 (by omega) h78⟩
                | exact Or.inl ⟨rfl, g4, zb_ne0.mp h112⟩
                | exact Or.inr ⟨rfl, fun q => absurd (q.2.symm.trans (zb_eq0.mp h112)) (by decide)⟩
            · refine R_iconst (q := 116) (v := nI 1) rfl rfl (by decide) ?_
              refine R_goto (t := 120) rfl rfl ?_
              refine h120 _ ?_
              first
                | exact Or.inr ⟨rfl, fun q => nI_ge q.1 (by omega) h78⟩
                | exact Or.inl ⟨rfl, g4, zb_ne0.mp h112⟩
                | exact Or.inr ⟨rfl, fun q => absurd (q.2.symm.trans (zb_eq0.mp h112)) (by decide)⟩
        · refine R_iconst (q := 70) (v := nI 3) rfl rfl (by decide) ?_
          refine R_ireturn rfl rfl ?_
          exact ⟨_, rfl, rfl, ln_ok3 g2a hp hr hw.2 hh.2 g0b g1b (nI_inj (by omega) (by decide) (e2.symm.trans h66))⟩
      · refine R_bipush (q := 60) (v := (-3)) rfl rfl (by decide) ?_
        refine R_iload_n (q := 61) rfl rfl rfl ?_
        refine R_isub (q := 62) rfl rfl ?_
        refine R_ireturn rfl rfl ?_
        exact ⟨_, rfl, rfl, ln_3 hn g1a hp hr hw.2 hh.2 g0b g1b (fun q => h55 ((h1t (k + 2)).mpr q))⟩
    · refine R_bipush (q := 40) (v := (-2)) rfl rfl (by decide) ?_
      refine R_iload_n (q := 41) rfl rfl rfl ?_
      refine R_isub (q := 42) rfl rfl ?_
      refine R_ireturn rfl rfl ?_
      exact ⟨_, rfl, rfl, ln_2 hn g0a hp hr hw.2 hh.2 g0b (fun q => absurd ((hin (k + 1) h hh.2).mpr q) (by rw [zb_eq0.mp h35]; decide))⟩
  · refine R_iconst (q := 17) (v := (-1)) rfl rfl (by decide) ?_
    refine R_iload_n (q := 18) rfl rfl rfl ?_
    refine R_isub (q := 19) rfl rfl ?_
    refine R_ireturn rfl rfl ?_
    exact ⟨_, rfl, rfl, ln_1 hn hk hp hr hw.2 (fun q => absurd ((hin k w hw.2).mpr q) (by rw [zb_eq0.mp h13]; decide))⟩
def MO (A : AS) (sh : Nat → Nat → Int32) (z : Int32) (f F : Nat → Int32) : Prop := (¬ shp z ∧ F = A 74) ∨ ∃ s, s < 6 ∧ z = nI s ∧ CRl (upa A 74 F) (ups sh s f)
theorem MO_cg {z : Int32} {f g F : Nat → Int32} (h : MO A sh z f F) (hg : ∀ y x, y < 16 → x < 16 → bt (g y) x = bt (f y) x) : MO A sh z g F := by
  rcases h with h | ⟨s, h1, h2, h3⟩
  · exact Or.inl h
  · exact Or.inr ⟨s, h1, h2, CR_cg h3 hg⟩
theorem shp_n {s : Nat} (h : s < 6) : shp (nI s) := ⟨by rw [i_n _ (by omega)]; omega, by rw [i_n _ (by omega)]; omega⟩
theorem rdr_id {x y w h : Int32} : ∀ (j i : Nat) (f g : Nat → Int32), on4 (x, y, w, h) = true → (∀ r c, r < 16 → c < 16 → bt (g r) c = bt (add4 f (x, y, w, h) r) c) → ∀ r c, r < 16 → c < 16 → bt (rdr x y (nI 0) (nI 0) w h j i g r) c = bt (add4 f (x, y, w, h) r) c := by
  intro j
  induction j with
  | zero => intro i f g _ h; exact h
  | succ j ih =>
    intro i f g ho h r c hr hc
    show bt (rdr x y (nI 0) (nI 0) w _ j (i + 1) (r12 g (x + nI i * nI 0, y + nI i * nI 0, w, _)) r) c = _
    rw [show nI i * nI 0 = nI 0 from Int32.mul_zero, show x + nI 0 = x from Int32.add_zero x, show y + nI 0 = y from Int32.add_zero y]
    refine ih (i + 1) f _ ho (fun r c hr hc => ?_) r c hr hc
    unfold r12
    rw [if_pos ho, b_add4 ho hc, h r c hr hc, b_add4 ho hc, Bool.or_assoc, Bool.or_self]
theorem rdr_1 {x y w h : Int32} {c : Nat} {f : Nat → Int32} (hc : 1 ≤ c) (ho : on4 (x, y, w, h) = true) : ∀ r q, r < 16 → q < 16 → bt (rdr x y (nI 0) (nI 0) w h 1 0 f r) q = bt (rdr x y (nI 0) (nI 0) w h c 0 f r) q := by
  have h1 : ∀ j, ∀ r q, r < 16 → q < 16 → bt (rdr x y (nI 0) (nI 0) w h (j + 1) 0 f r) q = bt (add4 f (x, y, w, h) r) q := by
    intro j
    show ∀ r q, r < 16 → q < 16 → bt (rdr x y (nI 0) (nI 0) w h j 1 (r12 f (x + nI 0 * nI 0, y + nI 0 * nI 0, w, h)) r) q = _
    rw [show nI 0 * nI 0 = nI 0 from rfl, show x + nI 0 = x from Int32.add_zero x, show y + nI 0 = y from Int32.add_zero y]
    refine rdr_id j 1 f _ ho (fun r q _ _ => ?_)
    unfold r12
    rw [if_pos ho]
  intro r q hr hq
  have e : c = (c - 1) + 1 := by omega
  rw [e, h1 (c - 1) r q hr hq, h1 0 r q hr hq]
set_option maxRecDepth 8000 in
theorem m199_cp {n k w h q ln sz : Nat} {p : Nat → Int32} {b : Nat → Nat} {z D E : Int32} {t7 : Option Value} {P : Option Value → mm_M → Prop} (hn : n ≤ 400) (hI : I 48 = nI n) (hA : ∀ i, i < n → A 109 i = p i) (hp : ∀ i, i < n → p i = nI (b i) ∧ b i ≤ 255) (hkn : k + sz ≤ n) (hsz : sz = 3 ∧ D = nI 0 ∧ E = nI 0 ∨ sz = 5 ∧ D = sgn (p (k + 3)) ∧ E = sgn (p (k + 4))) (hon : ∀ i, i < b (k + 2) → on4 (p k + nI i * D, p (k + 1) + nI i * E, nI w, nI h) = true) : ∀ (j i tot : Nat) (f F : Nat → Int32) (t11 t12 : Option Value), i + j = b (k + 2) → MO A sh z f F → (∀ F' i' t11 t12, MO A sh z (rdr (p k) (p (k + 1)) D E (nI w) (nI h) j i f) F' → mm_R S (d + 2) 199 236 [some (.ref 73), some (.int z), some (.int (nI k)), some (.int (nI (tot + j))), some (.int (nI w)), some (.int (nI h)), some (.int (nI ln)), t7, some (.int (nI q)), some (.int (nI sz)), some (.int (nI i')), t11, t12] [] (mdm M (upa A 74 F') I) P) → mm_R S (d + 2) 199 126 [some (.ref 73), some (.int z), some (.int (nI k)), some (.int (nI tot)), some (.int (nI w)), some (.int (nI h)), some (.int (nI ln)), t7, some (.int (nI q)), some (.int (nI sz)), some (.int (nI i)), t11, t12] [] (mdm M (upa A 74 F) I) P := by
  intro j
  induction j with
  | zero =>
    intro i tot f F t11 t12 hi hm hK
    have e1 : A 109 (k + 2) = nI i := by rw [hA (k + 2) (by omega), (hp (k + 2) (by omega)).1, ← hi, Nat.add_zero]
    have hb2 := (hp (k + 2) (by omega)).2
    refine R_iload (q := 128) rfl rfl rfl ?_
    refine R_aload_n (q := 129) rfl rfl rfl ?_
    refine R_getf (q := 132) rfl rfl rfl md_73 rfl ?_
    refine R_iload_n (q := 133) rfl rfl rfl ?_
    refine R_iconst (q := 134) (v := nI 2) rfl rfl (by decide) ?_
    refine R_iadd (q := 135) rfl rfl ?_
    rw [nI_add]
    refine R_iaload (q := 136) rfl rfl md_109 (by decide) (by first | assumption | exact in_nI (by omega) (by decide)) ?_
    rw [cl_nI (by omega), upa_n (by decide), e1]
    refine R_icmp_ge (q := 139) (t := 236) rfl rfl rfl (fun h136 => ?_) (fun h136 => absurd (nI_le (by omega) (by omega)) h136)
    exact hK F i _ _ hm
  | succ j ih =>
    intro i tot f F t11 t12 hi hm hK
    have hb2 := (hp (k + 2) (by omega)).2
    have e1 : A 109 (k + 2) = nI (b (k + 2)) := by rw [hA (k + 2) (by omega), (hp (k + 2) (by omega)).1]
    have hon1 := hon i (by omega)
    have h227 : ∀ (F' : Nat → Int32) (t11 t12 : Option Value), MO A sh z (r12 f (p k + nI i * D, p (k + 1) + nI i * E, nI w, nI h)) F' → mm_R S (d + 2) 199 227 [some (.ref 73), some (.int z), some (.int (nI k)), some (.int (nI tot)), some (.int (nI w)), some (.int (nI h)), some (.int (nI ln)), t7, some (.int (nI q)), some (.int (nI sz)), some (.int (nI i)), t11, t12] [] (mdm M (upa A 74 F') I) P := by
      intro F' t11 t12 hm' 
      refine R_iinc (q := 230) rfl rfl rfl (nI_i1 tot) rfl ?_
      dsimp only [List.set]
      refine R_iinc (q := 233) rfl rfl rfl (nI_i1 i) rfl ?_
      dsimp only [List.set]
      refine R_goto (t := 126) rfl rfl ?_
      refine ih (i + 1) (tot + 1) _ F' _ _ (by omega) hm' (fun F2 i' t11 t12 hm2 => ?_)
      rw [show tot + 1 + j = tot + (j + 1) by omega]
      exact hK F2 i' t11 t12 hm2
    have h190 : mm_R S (d + 2) 199 191 [some (.ref 73), some (.int z), some (.int (nI k)), some (.int (nI tot)), some (.int (nI w)), some (.int (nI h)), some (.int (nI ln)), t7, some (.int (nI q)), some (.int (nI sz)), some (.int (nI i)), some (.int (nI i * D)), some (.int (nI i * E))] [] (mdm M (upa A 74 F) I) P := by
      refine R_iload_n (q := 192) rfl rfl rfl ?_
      refine R_calls1 (q := 195) rfl rfl rfl rfl (Nat.le_of_ble_eq_true rfl) rfl ?_
      refine R_mono (m148) (fun v192 M192 hr192 => ?_)
      obtain ⟨rfl, hm192⟩ := hr192
      rw [hm192]
      dsimp only [Option.toList, List.cons_append, List.nil_append]
      refine R_if_eq (q := 198) (t := 227) rfl rfl rfl (fun h195 => ?_) (fun h195 => ?_)
      · first
          | (refine h227 F _ _ ?_
             rcases hm with hno | ⟨s, hs6, rfl, hcr⟩
             · exact Or.inl hno
             · exact absurd (shp_n hs6) (of_decide_eq_false (zb_eq0.mp h195)))
          | (rw [upa_u] at hcr2 ⊢
             rw [ups_u, ups_e] at hcr2
             refine h227 F2 _ _ (Or.inr ⟨s, hs6, rfl, ?_⟩)
             unfold r12
             rw [if_pos hon1]
             exact hcr2)
      · rcases hm with ⟨hno, -⟩ | ⟨s, hs6, rfl, hcr⟩
        · exact absurd (of_decide_eq_true (zb_ne0.mp h195)) hno
        refine R_aload_n (q := 199) rfl rfl rfl ?_
        refine R_iload_n (q := 200) rfl rfl rfl ?_
        refine R_aload_n (q := 201) rfl rfl rfl ?_
        refine R_getf (q := 204) rfl rfl rfl md_73 rfl ?_
        refine R_iload_n (q := 205) rfl rfl rfl ?_
        refine R_iaload (q := 206) rfl rfl md_109 (by decide) (by first | assumption | exact in_nI (by omega) (by decide)) ?_
        rw [cl_nI (by omega), upa_n (by decide), hA k (by omega)]
        refine R_iload (q := 208) rfl rfl rfl ?_
        refine R_iadd (q := 209) rfl rfl ?_
        refine R_aload_n (q := 210) rfl rfl rfl ?_
        refine R_getf (q := 213) rfl rfl rfl md_73 rfl ?_
        refine R_iload_n (q := 214) rfl rfl rfl ?_
        refine R_iconst (q := 215) (v := nI 1) rfl rfl (by decide) ?_
        refine R_iadd (q := 216) rfl rfl ?_
        rw [nI_add]
        refine R_iaload (q := 217) rfl rfl md_109 (by decide) (by first | assumption | exact in_nI (by omega) (by decide)) ?_
        rw [cl_nI (by omega), upa_n (by decide), hA (k + 1) (by omega)]
        refine R_iload (q := 219) rfl rfl rfl ?_
        refine R_iadd (q := 220) rfl rfl ?_
        refine R_iload (q := 222) rfl rfl rfl ?_
        refine R_iload (q := 224) rfl rfl rfl ?_
        refine R_callv5 (q := 227) rfl rfl rfl rfl md_73 (Nat.le_of_ble_eq_true rfl) rfl ?_
        refine R_mono (m150r (r := (p k + nI i * D, p (k + 1) + nI i * E, nI w, nI h)) hcr hs6 hon1) (fun v224 M224 hr224 => ?_)
        obtain ⟨rfl, F2, hm224, hcr2⟩ := hr224
        rw [hm224]
        dsimp only [Option.toList, List.cons_append, List.nil_append]
        first
          | (refine h227 F _ _ ?_
             rcases hm with hno | ⟨s, hs6, rfl, hcr⟩
             · exact Or.inl hno
             · exact absurd (shp_n hs6) (of_decide_eq_false (zb_eq0.mp h195)))
          | (rw [upa_u] at hcr2 ⊢
             rw [ups_u, ups_e] at hcr2
             refine h227 F2 _ _ (Or.inr ⟨s, hs6, rfl, ?_⟩)
             unfold r12
             rw [if_pos hon1]
             exact hcr2)
    rcases hsz with ⟨rfl, rfl, rfl⟩ | ⟨rfl, rfl, rfl⟩
    · have e0 : nI i * nI 0 = nI 0 := Int32.mul_zero
      rw [e0] at h190
      refine R_iload (q := 128) rfl rfl rfl ?_
      refine R_aload_n (q := 129) rfl rfl rfl ?_
      refine R_getf (q := 132) rfl rfl rfl md_73 rfl ?_
      refine R_iload_n (q := 133) rfl rfl rfl ?_
      refine R_iconst (q := 134) (v := nI 2) rfl rfl (by decide) ?_
      refine R_iadd (q := 135) rfl rfl ?_
      rw [nI_add]
      refine R_iaload (q := 136) rfl rfl md_109 (by decide) (by first | assumption | exact in_nI (by omega) (by decide)) ?_
      rw [cl_nI (by omega), upa_n (by decide), e1]
      refine R_icmp_ge (q := 139) (t := 236) rfl rfl rfl (fun h136 => absurd h136 (nI_ge (by omega) (by omega))) (fun h136 => ?_)
      refine R_iload (q := 141) rfl rfl rfl ?_
      refine R_iconst (q := 142) (v := nI 3) rfl rfl (by decide) ?_
      refine R_icmp_ne (q := 145) (t := 149) rfl rfl rfl (fun h142 => absurd rfl h142) (fun h142 => ?_)
      refine R_iconst (q := 146) (v := nI 0) rfl rfl (by decide) ?_
      refine R_goto (t := 163) rfl rfl ?_
      refine R_istore (q := 165) rfl rfl (Nat.le_of_ble_eq_true rfl) rfl ?_
      dsimp only [List.set]
      refine R_iload (q := 167) rfl rfl rfl ?_
      refine R_iconst (q := 168) (v := nI 3) rfl rfl (by decide) ?_
      refine R_icmp_ne (q := 171) (t := 175) rfl rfl rfl (fun h168 => absurd rfl h168) (fun h168 => ?_)
      refine R_iconst (q := 172) (v := nI 0) rfl rfl (by decide) ?_
      refine R_goto (t := 189) rfl rfl ?_
      refine R_istore (q := 191) rfl rfl (Nat.le_of_ble_eq_true rfl) rfl ?_
      dsimp only [List.set]
      exact h190
    · skip
      refine R_iload (q := 128) rfl rfl rfl ?_
      refine R_aload_n (q := 129) rfl rfl rfl ?_
      refine R_getf (q := 132) rfl rfl rfl md_73 rfl ?_
      refine R_iload_n (q := 133) rfl rfl rfl ?_
      refine R_iconst (q := 134) (v := nI 2) rfl rfl (by decide) ?_
      refine R_iadd (q := 135) rfl rfl ?_
      rw [nI_add]
      refine R_iaload (q := 136) rfl rfl md_109 (by decide) (by first | assumption | exact in_nI (by omega) (by decide)) ?_
      rw [cl_nI (by omega), upa_n (by decide), e1]
      refine R_icmp_ge (q := 139) (t := 236) rfl rfl rfl (fun h136 => absurd h136 (nI_ge (by omega) (by omega))) (fun h136 => ?_)
      refine R_iload (q := 141) rfl rfl rfl ?_
      refine R_iconst (q := 142) (v := nI 3) rfl rfl (by decide) ?_
      refine R_icmp_ne (q := 145) (t := 149) rfl rfl rfl (fun h142 => ?_) (fun h142 => absurd h142 (by decide))
      refine R_iload (q := 151) rfl rfl rfl ?_
      refine R_aload_n (q := 152) rfl rfl rfl ?_
      refine R_getf (q := 155) rfl rfl rfl md_73 rfl ?_
      refine R_iload_n (q := 156) rfl rfl rfl ?_
      refine R_iconst (q := 157) (v := nI 3) rfl rfl (by decide) ?_
      refine R_iadd (q := 158) rfl rfl ?_
      rw [nI_add]
      refine R_iaload (q := 159) rfl rfl md_109 (by decide) (by first | assumption | exact in_nI (by omega) (by decide)) ?_
      rw [cl_nI (by omega), upa_n (by decide), hA (k + 3) (by omega)]
      refine R_calls1 (q := 162) rfl rfl rfl rfl (Nat.le_of_ble_eq_true rfl) rfl ?_
      refine R_mono (m198) (fun v159 M159 hr159 => ?_)
      obtain ⟨rfl, hm159⟩ := hr159
      rw [hm159]
      dsimp only [Option.toList, List.cons_append, List.nil_append]
      refine R_imul (q := 163) rfl rfl ?_
      refine R_istore (q := 165) rfl rfl (Nat.le_of_ble_eq_true rfl) rfl ?_
      dsimp only [List.set]
      refine R_iload (q := 167) rfl rfl rfl ?_
      refine R_iconst (q := 168) (v := nI 3) rfl rfl (by decide) ?_
      refine R_icmp_ne (q := 171) (t := 175) rfl rfl rfl (fun h168 => ?_) (fun h168 => absurd h168 (by decide))
      refine R_iload (q := 177) rfl rfl rfl ?_
      refine R_aload_n (q := 178) rfl rfl rfl ?_
      refine R_getf (q := 181) rfl rfl rfl md_73 rfl ?_
      refine R_iload_n (q := 182) rfl rfl rfl ?_
      refine R_iconst (q := 183) (v := nI 4) rfl rfl (by decide) ?_
      refine R_iadd (q := 184) rfl rfl ?_
      rw [nI_add]
      refine R_iaload (q := 185) rfl rfl md_109 (by decide) (by first | assumption | exact in_nI (by omega) (by decide)) ?_
      rw [cl_nI (by omega), upa_n (by decide), hA (k + 4) (by omega)]
      refine R_calls1 (q := 188) rfl rfl rfl rfl (Nat.le_of_ble_eq_true rfl) rfl ?_
      refine R_mono (m198) (fun v185 M185 hr185 => ?_)
      obtain ⟨rfl, hm185⟩ := hr185
      rw [hm185]
      dsimp only [Option.toList, List.cons_append, List.nil_append]
      refine R_imul (q := 189) rfl rfl ?_
      refine R_istore (q := 191) rfl rfl (Nat.le_of_ble_eq_true rfl) rfl ?_
      dsimp only [List.set]
      exact h190
theorem lnr_on {n k w h : Nat} {p : Nat → Int32} {b : Nat → Nat} {D E : Int32} (hp : ∀ i, i < n → p i = nI (b i) ∧ b i ≤ 255) (hkn : k + 3 ≤ n) (hw : 1 ≤ w ∧ w ≤ 16) (hh : 1 ≤ h ∧ h ≤ 16) (hx : b k + w ≤ 16) (hy : b (k + 1) + h ≤ 16) (hD : -128 ≤ D.toInt ∧ D.toInt ≤ 127) (hE : -128 ≤ E.toInt ∧ E.toInt ≤ 127) (h1 : 1 ≤ b (k + 2)) (hq1 : eop (p (k + 2)) (p k) D (nI w) = true) (hq2 : eop (p (k + 2)) (p (k + 1)) E (nI h) = true) : ∀ i, i < b (k + 2) → on4 (p k + nI i * D, p (k + 1) + nI i * E, nI w, nI h) = true := by
  intro i hi
  have hb2 := (hp (k + 2) (by omega)).2
  rw [(hp (k + 2) (by omega)).1] at hq1 hq2
  rw [(hp k (by omega)).1] at hq1 ⊢
  rw [(hp (k + 1) (by omega)).1] at hq2 ⊢
  rw [eop_iff (by omega) (by omega) (by omega) hD] at hq1
  rw [eop_iff (by omega) (by omega) (by omega) hE] at hq2
  have c1 := conv (X := (b k : Int)) (D := D.toInt) (i := (i : Int)) (m := 16 - (w : Int)) (by omega) (of_decide_eq_true hq1) (by omega)
  have c2 := conv (X := (b (k + 1) : Int)) (D := E.toInt) (i := (i : Int)) (m := 16 - (h : Int)) (by omega) (of_decide_eq_true hq2) (by omega)
  unfold on4
  refine decide_eq_true ?_
  dsimp only
  rw [stp_t (by omega) (by omega) hD, stp_t (by omega) (by omega) hE, i_n _ (by omega), i_n _ (by omega)]
  omega
theorem eop_0 {c x w : Nat} (hc : 1 ≤ c ∧ c ≤ 255) (hx : x + w ≤ 16) : eop (nI c) (nI x) (nI 0) (nI w) = true := by
  rw [eop_iff hc (by omega) (by omega) (by decide), ik_0, Int.mul_zero]
  exact decide_eq_true (by omega)
set_option maxRecDepth 8000 in
theorem m199_ln {n k0 w h ln : Nat} {p : Nat → Int32} {b : Nat → Nat} {z : Int32} {W : Int32 × RA} {P : Option Value → mm_M → Prop} (hn : n ≤ 400) (hI : I 48 = nI n) (hA : ∀ i, i < n → A 109 i = p i) (hp : ∀ i, i < n → p i = nI (b i) ∧ b i ≤ 255) (hw : 1 ≤ w ∧ w ≤ 16) (hh : 1 ≤ h ∧ h ≤ 16) (hln : ln ≤ 255) (K : ∀ (k tot : Nat) (r : RS) (f F : Nat → Int32) (t4 t5 t6 t7 t8 t9 t10 t11 t12 : Option Value), k0 < k → k ≤ n → r.due = 0 → r.tot = nI tot → tot ≤ 255 * k → MO A sh z f F → W = rg n p k r f → mm_R S (d + 2) 199 4 [some (.ref 73), some (.int z), some (.int (nI k)), some (.int (nI tot)), t4, t5, t6, t7, t8, t9, t10, t11, t12] [] (mdm M (upa A 74 F) I) P) (Kb : (∀ F', (¬ shp z ∧ F' = A 74 ∨ ∃ s, s < 6 ∧ z = nI s) → W.1.toInt < 0 → P (some (.int W.1)) (mdm M (upa A 74 F') I))) : ∀ (jj q k tot : Nat) (r : RS) (f F : Nat → Int32) (t7 t9 t10 t11 t12 : Option Value), q + jj = ln → k0 < k → k ≤ n → W = rg n p k r f → RQ r w h jj tot → tot ≤ 255 * k → MO A sh z f F → mm_R S (d + 2) 199 97 [some (.ref 73), some (.int z), some (.int (nI k)), some (.int (nI tot)), some (.int (nI w)), some (.int (nI h)), some (.int (nI ln)), t7, some (.int (nI q)), t9, t10, t11, t12] [] (mdm M (upa A 74 F) I) P := by
  intro jj
  induction jj with
  | zero =>
    intro q k tot r f F t7 t9 t10 t11 t12 hq hk0 hk hW hr htot hm
    refine R_iload (q := 99) rfl rfl rfl ?_
    refine R_iload (q := 101) rfl rfl rfl ?_
    refine R_icmp_ge (q := 104) (t := 247) rfl rfl rfl (fun h101 => ?_) (fun h101 => absurd (nI_le (by omega) (by omega)) h101)
    refine R_goto (t := 4) rfl rfl ?_
    exact K k tot r f F _ _ _ _ _ _ _ _ _ hk0 hk hr.1 hr.2.2.2.2 htot hm hW
  | succ jj ih =>
    intro q k tot r f F t7 t9 t10 t11 t12 hq hk0 hk hW hr htot hm
    have hA' : ∀ i, i < n → upa A 74 F 109 i = p i := hA
    have hmz : (¬ shp z ∧ F = A 74 ∨ ∃ s, s < 6 ∧ z = nI s) := by
      rcases hm with hm | ⟨s, h1, h2, -⟩
      · exact Or.inl hm
      · exact Or.inr ⟨s, h1, h2⟩
    refine R_iload (q := 99) rfl rfl rfl ?_
    refine R_iload (q := 101) rfl rfl rfl ?_
    refine R_icmp_ge (q := 104) (t := 247) rfl rfl rfl (fun h101 => absurd h101 (nI_ge (by omega) (by omega))) (fun h101 => ?_)
    refine R_aload_n (q := 105) rfl rfl rfl ?_
    refine R_iload_n (q := 106) rfl rfl rfl ?_
    refine R_iload (q := 108) rfl rfl rfl ?_
    refine R_iload (q := 110) rfl rfl rfl ?_
    refine R_callv3 (q := 113) rfl rfl rfl rfl md_73 (Nat.le_of_ble_eq_true rfl) rfl ?_
    refine R_mono (m197 (f := f) hn hI hA' hk hp hr hw hh) (fun v110 M110 hr110 => ?_)
    obtain ⟨zz, rfl, hm110, hz110⟩ := hr110
    rw [hm110]
    dsimp only [Option.toList, List.cons_append, List.nil_append]
    refine R_istore (q := 115) rfl rfl (Nat.le_of_ble_eq_true rfl) rfl ?_
    dsimp only [List.set]
    refine R_iload (q := 117) rfl rfl rfl ?_
    refine R_if_ge (q := 120) (t := 123) rfl rfl rfl (fun h117 => ?_) (fun h117 => ?_)
    · refine R_iconst (q := 124) (v := nI 0) rfl rfl (by decide) ?_
      refine R_istore (q := 126) rfl rfl (Nat.le_of_ble_eq_true rfl) rfl ?_
      dsimp only [List.set]
      rw [i_le, i_0] at h117
      rcases hz110 with ⟨g1, g2⟩ | ⟨⟨ga, gb, gc⟩, ⟨rfl, g2, g3⟩ | ⟨rfl, g2, g3, ⟨g4, g5⟩, g6⟩⟩
      · omega
      · have e2 : p (k + 2) = nI 1 := by rw [(hp (k + 2) (by omega)).1, g2]
        have hon := lnr_on (D := nI 0) (E := nI 0) hp (by omega) hw hh gb gc (by decide) (by decide) (by omega) (by rw [(hp (k + 2) (by omega)).1, (hp k (by omega)).1]; exact eop_0 (by omega) gb) (by rw [(hp (k + 2) (by omega)).1, (hp (k + 1) (by omega)).1]; exact eop_0 (by omega) gc)
        refine m199_cp (sz := 3) (D := nI 0) (E := nI 0) hn hI hA hp (by omega) (Or.inl ⟨rfl, rfl, rfl⟩) hon (b (k + 2)) 0 tot f F _ _ (by omega) hm (fun F2 i2 t11 t12 hm2 => ?_)
        have hRQ := RQ_fin (q := rl3 r (p k) (p (k + 1))) (c := b (k + 2)) hr (by omega) ⟨rfl, rfl, rfl, rfl, by rw [g2]; rfl⟩
        have hm3 : MO A sh z (rff (rl3 r (p k) (p (k + 1))) f) F2 := by
          rw [g2] at hm2
          show MO A sh z (rdr (p k) (p (k + 1)) (nI 0) (nI 0) r.w r.h (drn (rl3 r (p k) (p (k + 1)))).toNatClampNeg 0 f) F2
          rw [hr.2.1, hr.2.2.1, show (drn (rl3 r (p k) (p (k + 1)))).toNatClampNeg = 1 from rfl]
          exact hm2
        have hW3 := hW.trans g3
        refine R_iload_n (q := 237) rfl rfl rfl ?_
        refine R_iload (q := 239) rfl rfl rfl ?_
        refine R_iadd (q := 240) rfl rfl ?_
        rw [nI_add]
        refine R_istore_n (q := 241) rfl rfl (Nat.le_of_ble_eq_true rfl) rfl ?_
        dsimp only [List.set]
        refine R_iinc (q := 244) rfl rfl rfl (nI_i1 q) rfl ?_
        dsimp only [List.set]
        refine R_goto (t := 97) rfl rfl ?_
        exact ih (q + 1) (k + 3) (tot + b (k + 2)) _ _ F2 _ _ _ _ _ (by omega) (by omega) (by omega) hW3 hRQ (by have := (hp (k + 2) (by omega)).2; omega) hm3
      · have h2 := (hp (k + 2) (by omega)).2
        have hD : -128 ≤ (sgn (p (k + 3))).toInt ∧ (sgn (p (k + 3))).toInt ≤ 127 := by rw [(hp (k + 3) (by omega)).1]; exact sgn_t (hp (k + 3) (by omega)).2
        have hE : -128 ≤ (sgn (p (k + 4))).toInt ∧ (sgn (p (k + 4))).toInt ≤ 127 := by rw [(hp (k + 4) (by omega)).1]; exact sgn_t (hp (k + 4) (by omega)).2
        have hon := lnr_on hp (by omega) hw hh gb gc hD hE (by omega) g4 g5
        refine m199_cp (sz := 5) (D := sgn (p (k + 3))) (E := sgn (p (k + 4))) hn hI hA hp (by omega) (Or.inr ⟨rfl, rfl, rfl⟩) hon (b (k + 2)) 0 tot f F _ _ (by omega) hm (fun F2 i2 t11 t12 hm2 => ?_)
        have hRQ := RQ_fin (q := rl5 r (p k) (p (k + 1)) (p (k + 2)) (sgn (p (k + 3))) (sgn (p (k + 4)))) (c := b (k + 2)) hr (by omega) ⟨rfl, rfl, rfl, rfl, (hp (k + 2) (by omega)).1⟩
        have hm3 : MO A sh z (rff (rl5 r (p k) (p (k + 1)) (p (k + 2)) (sgn (p (k + 3))) (sgn (p (k + 4)))) f) F2 := by
          show MO A sh z (rdr (p k) (p (k + 1)) (sgn (p (k + 3))) (sgn (p (k + 4))) r.w r.h (if sgn (p (k + 3)) = 0 ∧ sgn (p (k + 4)) = 0 then nI 1 else p (k + 2)).toNatClampNeg 0 f) F2
          rw [hr.2.1, hr.2.2.1]
          by_cases h00 : sgn (p (k + 3)) = 0 ∧ sgn (p (k + 4)) = 0
          · have on0 := hon 0 (by omega)
            rw [if_pos h00]
            rw [h00.1, h00.2] at hm2 on0 ⊢
            rw [show p k + nI 0 * 0 = p k from Int32.add_zero _, show p (k + 1) + nI 0 * 0 = p (k + 1) from Int32.add_zero _] at on0
            exact MO_cg hm2 (rdr_1 (by omega) on0)
          · rw [if_neg h00, (hp (k + 2) (by omega)).1, cl_nI (by omega)]
            exact hm2
        have hW3 := hW.trans g6
        refine R_iload_n (q := 237) rfl rfl rfl ?_
        refine R_iload (q := 239) rfl rfl rfl ?_
        refine R_iadd (q := 240) rfl rfl ?_
        rw [nI_add]
        refine R_istore_n (q := 241) rfl rfl (Nat.le_of_ble_eq_true rfl) rfl ?_
        dsimp only [List.set]
        refine R_iinc (q := 244) rfl rfl rfl (nI_i1 q) rfl ?_
        dsimp only [List.set]
        refine R_goto (t := 97) rfl rfl ?_
        exact ih (q + 1) (k + 5) (tot + b (k + 2)) _ _ F2 _ _ _ _ _ (by omega) (by omega) (by omega) hW3 hRQ (by have := (hp (k + 2) (by omega)).2; omega) hm3
    · refine R_iload (q := 122) rfl rfl rfl ?_
      refine R_ireturn rfl rfl ?_
      rw [i_le, i_0] at h117
      rcases hz110 with ⟨g1, g2⟩ | ⟨-, ⟨g1, -⟩ | ⟨g1, -⟩⟩
      · rw [← hW] at g2
        rw [← g2]
        exact Kb F hmz (by rw [g2]; exact g1)
      · rw [g1, ik_3] at h117; omega
      · rw [g1, ik_5] at h117; omega
theorem ac0 {b0 : Nat} {b : Int32} {r : RS} {f : Nat → Int32} (hd : r.due = 0) (hb' : b = nI b0) (h0 : ¬ b0 = 0) (h16 : b0 ≤ 16) : acc b r f = (true, ⟨1, nI b0, r.h, r.ln, r.x, r.y, r.cp, r.dx, r.dy, r.tot⟩, f) := by
  rw [acc_0 hd, hb', if_neg (fun q => h0 (nI_0_of q)), decide_eq_true (by rw [i_le, i_n b0 (by omega), ik_16]; omega)]
theorem ac1 {b0 : Nat} {b : Int32} {r : RS} {f : Nat → Int32} (hd : r.due = 1) (hb' : b = nI b0) (h0 : 1 ≤ b0) (h16 : b0 ≤ 16) : acc b r f = (true, ⟨2, r.w, nI b0, r.ln, r.x, r.y, r.cp, r.dx, r.dy, r.tot⟩, f) := by
  rw [acc_1 hd, hb', decide_eq_true (by rw [i_le, i_le, i_n b0 (by omega), ik_16, ik_1]; omega)]
theorem ac2 {b0 : Nat} {b : Int32} {r : RS} {f : Nat → Int32} (hd : r.due = 2) (hb' : b = nI b0) (h0 : 1 ≤ b0) (h5 : b0 ≤ 255 := by omega) : acc b r f = (true, ⟨3, r.w, r.h, nI b0, r.x, r.y, r.cp, r.dx, r.dy, r.tot⟩, f) := by
  rw [acc_2 hd, hb', decide_eq_true (by rw [i_le, i_n b0 (by omega), ik_1]; omega)]
theorem nI_i3 (k : Nat) : nI k + Int32.ofInt 3 = nI (k + 3) := nI_add k 3
set_option maxRecDepth 8000 in
theorem m199_hd {n : Nat} {p : Nat → Int32} {b : Nat → Nat} {z : Int32} {W : Int32 × RA} (hn : n ≤ 400) (hI : I 48 = nI n) (hA : ∀ i, i < n → A 109 i = p i) (hp : ∀ i, i < n → p i = nI (b i) ∧ b i ≤ 255) : ∀ (j k tot : Nat) (r : RS) (f F : Nat → Int32) (t4 t5 t6 t7 t8 t9 t10 t11 t12 : Option Value), n ≤ k + j → k ≤ n → r.due = 0 → r.tot = nI tot → tot ≤ 255 * k → MO A sh z f F → W = rg n p k r f → mm_R S (d + 2) 199 4 [some (.ref 73), some (.int z), some (.int (nI k)), some (.int (nI tot)), t4, t5, t6, t7, t8, t9, t10, t11, t12] [] (mdm M (upa A 74 F) I) (fun v M' => v = some (.int W.1) ∧ ∃ F', M' = (mdm M (upa A 74 F') I) ∧ ((¬ shp z ∧ F' = A 74) ∨ ∃ s, s < 6 ∧ z = nI s ∧ (W.1.toInt < 0 ∨ CRl (upa A 74 F') (ups sh s W.2.2.2)))) := by
  intro j
  induction j with
  | zero => 
    intro k tot r f F t4 t5 t6 t7 t8 t9 t10 t11 t12 hj hk hd ht htot hm hW
    have hA' : ∀ i, i < n → upa A 74 F 109 i = p i := hA
    have hmz : (¬ shp z ∧ F = A 74 ∨ ∃ s, s < 6 ∧ z = nI s) := by
      rcases hm with hm | ⟨s, h1, h2, -⟩
      · exact Or.inl hm
      · exact Or.inr ⟨s, h1, h2⟩
    have eb : bo n p k = (-1) := if_neg (by omega)
    refine R_aload_n (q := 5) rfl rfl rfl ?_
    refine R_iload_n (q := 6) rfl rfl rfl ?_
    refine R_callv1 (q := 9) rfl rfl rfl rfl md_73 (Nat.le_of_ble_eq_true rfl) rfl ?_
    refine R_mono (m196 (i := k) hn hI hA' (by omega)) (fun v6 M6 hr6 => ?_)
    obtain ⟨rfl, hm6⟩ := hr6
    rw [hm6]
    dsimp only [Option.toList, List.cons_append, List.nil_append]
    rw [eb]
    refine R_if_le (q := 12) (t := 250) rfl rfl rfl (fun h9 => ?_) (fun h9 => absurd (by decide) h9)
    refine R_aload_n (q := 251) rfl rfl rfl ?_
    refine R_iload_n (q := 252) rfl rfl rfl ?_
    refine R_callv1 (q := 255) rfl rfl rfl rfl md_73 (Nat.le_of_ble_eq_true rfl) rfl ?_
    refine R_mono (m196 (i := k) hn hI hA' (by omega)) (fun v252 M252 hr252 => ?_)
    obtain ⟨rfl, hm252⟩ := hr252
    rw [hm252]
    dsimp only [Option.toList, List.cons_append, List.nil_append]
    rw [eb]
    refine R_if_ge (q := 258) (t := 264) rfl rfl rfl (fun h255 => absurd h255 (by decide)) (fun h255 => ?_)
    refine R_iconst (q := 259) (v := (-1)) rfl rfl (by decide) ?_
    refine R_iload_n (q := 260) rfl rfl rfl ?_
    refine R_isub (q := 261) rfl rfl ?_
    refine R_goto (t := 282) rfl rfl ?_
    refine R_ireturn rfl rfl ?_
    have ew : W.1 = (-1) - nI k := by rw [hW]; exact rg_end (by omega) (by rw [hd]; decide)
    refine ⟨congrArg some (congrArg Value.int ?_), F, rfl, ?_⟩
    · exact ew.symm
    · rcases hmz with q | ⟨s, q1, q2⟩
      · exact Or.inl q
      · exact Or.inr ⟨s, q1, q2, Or.inl (by rw [ew]; exact m_neg (by omega))⟩
  | succ j ih =>
    intro k tot r f F t4 t5 t6 t7 t8 t9 t10 t11 t12 hj hk hd ht htot hm hW
    have hA' : ∀ i, i < n → upa A 74 F 109 i = p i := hA
    have hmz : (¬ shp z ∧ F = A 74 ∨ ∃ s, s < 6 ∧ z = nI s) := by
      rcases hm with hm | ⟨s, h1, h2, -⟩
      · exact Or.inl hm
      · exact Or.inr ⟨s, h1, h2⟩
    by_cases hkn : k < n
    case neg =>
      have eb : bo n p k = (-1) := if_neg hkn
      refine R_aload_n (q := 5) rfl rfl rfl ?_
      refine R_iload_n (q := 6) rfl rfl rfl ?_
      refine R_callv1 (q := 9) rfl rfl rfl rfl md_73 (Nat.le_of_ble_eq_true rfl) rfl ?_
      refine R_mono (m196 (i := k) hn hI hA' (by omega)) (fun v6 M6 hr6 => ?_)
      obtain ⟨rfl, hm6⟩ := hr6
      rw [hm6]
      dsimp only [Option.toList, List.cons_append, List.nil_append]
      rw [eb]
      refine R_if_le (q := 12) (t := 250) rfl rfl rfl (fun h9 => ?_) (fun h9 => absurd (by decide) h9)
      refine R_aload_n (q := 251) rfl rfl rfl ?_
      refine R_iload_n (q := 252) rfl rfl rfl ?_
      refine R_callv1 (q := 255) rfl rfl rfl rfl md_73 (Nat.le_of_ble_eq_true rfl) rfl ?_
      refine R_mono (m196 (i := k) hn hI hA' (by omega)) (fun v252 M252 hr252 => ?_)
      obtain ⟨rfl, hm252⟩ := hr252
      rw [hm252]
      dsimp only [Option.toList, List.cons_append, List.nil_append]
      rw [eb]
      refine R_if_ge (q := 258) (t := 264) rfl rfl rfl (fun h255 => absurd h255 (by decide)) (fun h255 => ?_)
      refine R_iconst (q := 259) (v := (-1)) rfl rfl (by decide) ?_
      refine R_iload_n (q := 260) rfl rfl rfl ?_
      refine R_isub (q := 261) rfl rfl ?_
      refine R_goto (t := 282) rfl rfl ?_
      refine R_ireturn rfl rfl ?_
      have ew : W.1 = (-1) - nI k := by rw [hW]; exact rg_end (by omega) (by rw [hd]; decide)
      refine ⟨congrArg some (congrArg Value.int ?_), F, rfl, ?_⟩
      · exact ew.symm
      · rcases hmz with q | ⟨s, q1, q2⟩
        · exact Or.inl q
        · exact Or.inr ⟨s, q1, q2, Or.inl (by rw [ew]; exact m_neg (by omega))⟩
    case pos =>
      have hbk := (hp k hkn).2
      have eb : bo n p k = nI (b k) := (if_pos hkn).trans (hp k hkn).1
      have hi1 : (decide ((nI 1).toInt ≤ (bo n p (k + 1)).toInt ∧ (bo n p (k + 1)).toInt ≤ (nI 16).toInt) = true ↔ k + 1 < n ∧ 1 ≤ b (k + 1) ∧ b (k + 1) ≤ 16) := by
        rw [decide_eq_true_iff, ik_1, ik_16]
        unfold bo
        by_cases hi : k + 1 < n
        · have := (hp _ hi).2
          rw [if_pos hi, (hp _ hi).1, i_n _ (by omega)]
          omega
        · rw [if_neg hi, ikm_1]
          omega
      have hi2 : (nI 1 ≤ bo n p (k + 2) ↔ k + 2 < n ∧ 1 ≤ b (k + 2)) := by
        rw [i_le, ik_1]
        unfold bo
        by_cases hi : k + 2 < n
        · have := (hp _ hi).2
          rw [if_pos hi, (hp _ hi).1, i_n _ (by omega)]
          omega
        · rw [if_neg hi, ikm_1]
          omega
      have hbad : ∀ k' : Nat, k' < 900 → W.1 = (-1) - nI k' → mm_R S (d + 2) 199 79 [some (.ref 73), some (.int z), some (.int (nI k)), some (.int (nI tot)), some (.int (nI (b k))), some (.int (bo n p (k + 1))), some (.int (bo n p (k + 2))), t7, t8, t9, t10, t11, t12] [.int (nI k')] (mdm M (upa A 74 F) I) (fun v M' => v = some (.int W.1) ∧ ∃ F', M' = (mdm M (upa A 74 F') I) ∧ ((¬ shp z ∧ F' = A 74) ∨ ∃ s, s < 6 ∧ z = nI s ∧ (W.1.toInt < 0 ∨ CRl (upa A 74 F') (ups sh s W.2.2.2)))) := by
        intro k' hk' ew
        refine R_istore (q := 81) rfl rfl (Nat.le_of_ble_eq_true rfl) rfl ?_
        dsimp only [List.set]
        refine R_iload (q := 83) rfl rfl rfl ?_
        refine R_if_lt (q := 86) (t := 91) rfl rfl rfl (fun h83 => absurd h83 (by rw [i_lt, i_0, i_n _ (by omega)]; omega)) (fun h83 => ?_)
        refine R_iconst (q := 87) (v := (-1)) rfl rfl (by decide) ?_
        refine R_iload (q := 89) rfl rfl rfl ?_
        refine R_isub (q := 90) rfl rfl ?_
        refine R_ireturn rfl rfl ?_
        refine ⟨congrArg some (congrArg Value.int ?_), F, rfl, ?_⟩
        · exact ew.symm
        · rcases hmz with q | ⟨s, q1, q2⟩
          · exact Or.inl q
          · exact Or.inr ⟨s, q1, q2, Or.inl (by rw [ew]; exact m_neg hk')⟩
      refine R_aload_n (q := 5) rfl rfl rfl ?_
      refine R_iload_n (q := 6) rfl rfl rfl ?_
      refine R_callv1 (q := 9) rfl rfl rfl rfl md_73 (Nat.le_of_ble_eq_true rfl) rfl ?_
      refine R_mono (m196 (i := k) hn hI hA' (by omega)) (fun v6 M6 hr6 => ?_)
      obtain ⟨rfl, hm6⟩ := hr6
      rw [hm6]
      dsimp only [Option.toList, List.cons_append, List.nil_append]
      rw [eb]
      refine R_if_le (q := 12) (t := 250) rfl rfl rfl (fun h9 => ?_) (fun h9 => ?_)
      · refine R_aload_n (q := 251) rfl rfl rfl ?_
        refine R_iload_n (q := 252) rfl rfl rfl ?_
        refine R_callv1 (q := 255) rfl rfl rfl rfl md_73 (Nat.le_of_ble_eq_true rfl) rfl ?_
        refine R_mono (m196 (i := k) hn hI hA' (by omega)) (fun v252 M252 hr252 => ?_)
        obtain ⟨rfl, hm252⟩ := hr252
        rw [hm252]
        dsimp only [Option.toList, List.cons_append, List.nil_append]
        rw [eb]
        refine R_if_ge (q := 258) (t := 264) rfl rfl rfl (fun h255 => ?_) (fun h255 => absurd (by rw [i_le, i_0, i_n _ (by omega)]; omega) h255)
        refine R_iload_n (q := 265) rfl rfl rfl ?_
        refine R_iconst (q := 266) (v := nI 1) rfl rfl (by decide) ?_
        refine R_iadd (q := 267) rfl rfl ?_
        rw [nI_add]
        refine R_aload_n (q := 268) rfl rfl rfl ?_
        refine R_getf (q := 271) rfl rfl rfl md_73 rfl ?_
        rw [hI]
        refine R_icmp_ge (q := 274) (t := 281) rfl rfl rfl (fun h271 => ?_) (fun h271 => ?_)
        · refine R_iload_n (q := 282) rfl rfl rfl ?_
          refine R_ireturn rfl rfl ?_
          have h0 : b k = 0 := by rw [i_le, i_n _ (by omega), i_0] at h9; omega
          have e1 : acc (p k) r f = (true, ⟨8, nI 0, r.h, r.ln, r.x, r.y, r.cp, r.dx, r.dy, r.tot⟩, f) := by
            rw [acc_0 hd, (hp k hkn).1, h0]
            rfl
          rw [rg_hit hkn e1] at hW
          first
            | (have hk1 : k + 1 < n := nI_lt_of (by omega) h271
               have ew : W.1 = (-1) - nI (k + 1) := by rw [hW]; exact rg_bad hk1 (by rw [acc_8 rfl])
               refine ⟨congrArg some (congrArg Value.int ?_), F, rfl, ?_⟩
               · rw [ew]; exact m_2 (by omega)
               · rcases hmz with q | ⟨s, q1, q2⟩
                 · exact Or.inl q
                 · exact Or.inr ⟨s, q1, q2, Or.inl (by rw [ew]; exact m_neg (by omega))⟩)
            | (have hk1 : ¬ k + 1 < n := nI_ge_of (by omega) (by omega) h271
               rw [rg_fin (by omega) rfl] at hW
               refine ⟨by rw [hW]; exact congrArg some (congrArg Value.int ht.symm), F, rfl, ?_⟩
               rcases hm with q | ⟨s, q1, q2, q3⟩
               · exact Or.inl q
               · exact Or.inr ⟨s, q1, q2, Or.inr (by rw [hW]; exact q3)⟩)
        · refine R_bipush (q := 276) (v := (-2)) rfl rfl (by decide) ?_
          refine R_iload_n (q := 277) rfl rfl rfl ?_
          refine R_isub (q := 278) rfl rfl ?_
          refine R_goto (t := 282) rfl rfl ?_
          refine R_ireturn rfl rfl ?_
          have h0 : b k = 0 := by rw [i_le, i_n _ (by omega), i_0] at h9; omega
          have e1 : acc (p k) r f = (true, ⟨8, nI 0, r.h, r.ln, r.x, r.y, r.cp, r.dx, r.dy, r.tot⟩, f) := by
            rw [acc_0 hd, (hp k hkn).1, h0]
            rfl
          rw [rg_hit hkn e1] at hW
          first
            | (have hk1 : k + 1 < n := nI_lt_of (by omega) h271
               have ew : W.1 = (-1) - nI (k + 1) := by rw [hW]; exact rg_bad hk1 (by rw [acc_8 rfl])
               refine ⟨congrArg some (congrArg Value.int ?_), F, rfl, ?_⟩
               · rw [ew]; exact m_2 (by omega)
               · rcases hmz with q | ⟨s, q1, q2⟩
                 · exact Or.inl q
                 · exact Or.inr ⟨s, q1, q2, Or.inl (by rw [ew]; exact m_neg (by omega))⟩)
            | (have hk1 : ¬ k + 1 < n := nI_ge_of (by omega) (by omega) h271
               rw [rg_fin (by omega) rfl] at hW
               refine ⟨by rw [hW]; exact congrArg some (congrArg Value.int ht.symm), F, rfl, ?_⟩
               rcases hm with q | ⟨s, q1, q2, q3⟩
               · exact Or.inl q
               · exact Or.inr ⟨s, q1, q2, Or.inr (by rw [hW]; exact q3)⟩)
      · refine R_aload_n (q := 13) rfl rfl rfl ?_
        refine R_getf (q := 16) rfl rfl rfl md_73 rfl ?_
        refine R_iload_n (q := 17) rfl rfl rfl ?_
        refine R_iaload (q := 18) rfl rfl md_109 (by decide) (by first | assumption | exact in_nI (by omega) (by decide)) ?_
        rw [cl_nI (by omega), upa_n (by decide), hA k hkn, (hp k hkn).1]
        refine R_istore (q := 20) rfl rfl (Nat.le_of_ble_eq_true rfl) rfl ?_
        dsimp only [List.set]
        refine R_aload_n (q := 21) rfl rfl rfl ?_
        refine R_iload_n (q := 22) rfl rfl rfl ?_
        refine R_iconst (q := 23) (v := nI 1) rfl rfl (by decide) ?_
        refine R_iadd (q := 24) rfl rfl ?_
        rw [nI_add]
        refine R_callv1 (q := 27) rfl rfl rfl rfl md_73 (Nat.le_of_ble_eq_true rfl) rfl ?_
        refine R_mono (m196 (i := k + 1) hn hI hA' (by omega)) (fun v24 M24 hr24 => ?_)
        obtain ⟨rfl, hm24⟩ := hr24
        rw [hm24]
        dsimp only [Option.toList, List.cons_append, List.nil_append]
        refine R_istore (q := 29) rfl rfl (Nat.le_of_ble_eq_true rfl) rfl ?_
        dsimp only [List.set]
        refine R_aload_n (q := 30) rfl rfl rfl ?_
        refine R_iload_n (q := 31) rfl rfl rfl ?_
        refine R_iconst (q := 32) (v := nI 2) rfl rfl (by decide) ?_
        refine R_iadd (q := 33) rfl rfl ?_
        rw [nI_add]
        refine R_callv1 (q := 36) rfl rfl rfl rfl md_73 (Nat.le_of_ble_eq_true rfl) rfl ?_
        refine R_mono (m196 (i := k + 2) hn hI hA' (by omega)) (fun v33 M33 hr33 => ?_)
        obtain ⟨rfl, hm33⟩ := hr33
        rw [hm33]
        dsimp only [Option.toList, List.cons_append, List.nil_append]
        refine R_istore (q := 38) rfl rfl (Nat.le_of_ble_eq_true rfl) rfl ?_
        dsimp only [List.set]
        refine R_iload (q := 40) rfl rfl rfl ?_
        refine R_bipush (q := 42) (v := nI 16) rfl rfl (by decide) ?_
        refine R_icmp_le (q := 45) (t := 49) rfl rfl rfl (fun h42 => ?_) (fun h42 => ?_)
        · refine R_iload (q := 51) rfl rfl rfl ?_
          refine R_iconst (q := 52) (v := nI 1) rfl rfl (by decide) ?_
          refine R_bipush (q := 54) (v := nI 16) rfl rfl (by decide) ?_
          refine R_calls3 (q := 57) rfl rfl rfl rfl (Nat.le_of_ble_eq_true rfl) rfl ?_
          refine R_mono (m147) (fun v54 M54 hr54 => ?_)
          obtain ⟨rfl, hm54⟩ := hr54
          rw [hm54]
          dsimp only [Option.toList, List.cons_append, List.nil_append]
          refine R_if_ne (q := 60) (t := 66) rfl rfl rfl (fun h57 => ?_) (fun h57 => ?_)
          · refine R_iload (q := 68) rfl rfl rfl ?_
            refine R_iconst (q := 69) (v := nI 1) rfl rfl (by decide) ?_
            refine R_icmp_ge (q := 72) (t := 78) rfl rfl rfl (fun h69 => ?_) (fun h69 => ?_)
            · refine R_iconst (q := 79) (v := (-1)) rfl rfl (by decide) ?_
              first
                | (refine hbad k (by omega) ?_
                   rw [hW]
                   refine rg_bad hkn ?_
                   rw [acc_0 hd, (hp k hkn).1]
                   refine decide_eq_false (fun q => h42 q))
                | (refine hbad (k + 1) (by omega) ?_
                   have h16 : b k ≤ 16 := by rw [i_le, i_n _ (by omega), ik_16] at h42; omega
                   have h0 : ¬ b k = 0 := by rw [i_le, i_n _ (by omega), i_0] at h9; omega
                   rw [hW, rg_hit hkn (ac0 hd (hp k hkn).1 h0 h16)]
                   by_cases hk1 : k + 1 < n
                   · refine rg_bad hk1 ?_
                     rw [acc_1 rfl]
                     refine decide_eq_false (fun q => ?_)
                     have q1 := hi1.mpr ⟨hk1, by
                       have hb1 := (hp _ hk1).2
                       rw [(hp _ hk1).1, i_le, i_le, i_n (b (k + 1)) (by omega), ik_1, ik_16] at q
                       omega⟩
                     rw [q1] at h57
                     exact absurd h57 (by decide)
                   · exact rg_end (by omega) (show ¬ (1 : Nat) = 8 by decide))
                | (refine hbad (k + 2) (by omega) ?_
                   have h16 : b k ≤ 16 := by rw [i_le, i_n _ (by omega), ik_16] at h42; omega
                   have h0 : ¬ b k = 0 := by rw [i_le, i_n _ (by omega), i_0] at h9; omega
                   have g1 := hi1.mp (zb_ne0.mp h57)
                   rw [hW, rg_hit hkn (ac0 hd (hp k hkn).1 h0 h16), rg_hit g1.1 (ac1 rfl (hp _ g1.1).1 g1.2.1 g1.2.2)]
                   by_cases hk2 : k + 2 < n
                   · refine rg_bad hk2 ?_
                     rw [acc_2 rfl]
                     refine decide_eq_false (fun q => h69 (hi2.mpr ⟨hk2, ?_⟩))
                     have hb2 := (hp _ hk2).2
                     rw [(hp _ hk2).1, i_le, ik_1, i_n _ (by omega)] at q
                     omega
                   · exact rg_end (by omega) (show ¬ (2 : Nat) = 8 by decide))
                | (have h16 : b k ≤ 16 := by rw [i_le, i_n _ (by omega), ik_16] at h42; omega
                   have h0 : ¬ b k = 0 := by rw [i_le, i_n _ (by omega), i_0] at h9; omega
                   have g1 := hi1.mp (zb_ne0.mp h57)
                   have g2 := hi2.mp h69
                   have hb2 := (hp _ g2.1).2
                   rw [rg_hit hkn (ac0 hd (hp k hkn).1 h0 h16), rg_hit g1.1 (ac1 rfl (hp _ g1.1).1 g1.2.1 g1.2.2), rg_hit g2.1 (ac2 rfl (hp _ g2.1).1 g2.2)] at hW
                   rw [show bo n p (k + 1) = nI (b (k + 1)) from (if_pos g1.1).trans (hp _ g1.1).1, show bo n p (k + 2) = nI (b (k + 2)) from (if_pos g2.1).trans (hp _ g2.1).1]
                   refine R_istore (q := 81) rfl rfl (Nat.le_of_ble_eq_true rfl) rfl ?_
                   dsimp only [List.set]
                   refine R_iload (q := 83) rfl rfl rfl ?_
                   refine R_if_lt (q := 86) (t := 91) rfl rfl rfl (fun h83 => ?_) (fun h83 => absurd (by decide) h83)
                   refine R_iinc (q := 94) rfl rfl rfl (nI_i3 k) rfl ?_
                   dsimp only [List.set]
                   refine R_iconst (q := 95) (v := nI 0) rfl rfl (by decide) ?_
                   refine R_istore (q := 97) rfl rfl (Nat.le_of_ble_eq_true rfl) rfl ?_
                   dsimp only [List.set]
                   refine m199_ln (k0 := k) (W := W) hn hI hA hp ⟨by omega, h16⟩ g1.2 (by omega) (fun k2 tot2 r2 f2 F2 t4 t5 t6 t7 t8 t9 t10 t11 t12 q1 q2 q3 q4 q5 q6 q7 => ih k2 tot2 r2 f2 F2 _ _ _ _ _ _ _ _ _ (by omega) q2 q3 q4 q5 q6 q7) (fun F2 q1 q2 => ⟨rfl, F2, rfl, ?_⟩) (b (k + 2)) 0 (k + 3) tot _ f F _ _ _ _ _ (by omega) (by omega) (by omega) hW ⟨by rw [if_pos (by omega)], rfl, rfl, rfl, ht⟩ (by omega) hm
                   rcases q1 with q1 | ⟨s, q1, q3⟩
                   · exact Or.inl q1
                   · exact Or.inr ⟨s, q1, q3, Or.inl q2⟩)
            · refine R_iload_n (q := 73) rfl rfl rfl ?_
              refine R_iconst (q := 74) (v := nI 2) rfl rfl (by decide) ?_
              refine R_iadd (q := 75) rfl rfl ?_
              rw [nI_add]
              refine R_goto (t := 79) rfl rfl ?_
              first
                | (refine hbad k (by omega) ?_
                   rw [hW]
                   refine rg_bad hkn ?_
                   rw [acc_0 hd, (hp k hkn).1]
                   refine decide_eq_false (fun q => h42 q))
                | (refine hbad (k + 1) (by omega) ?_
                   have h16 : b k ≤ 16 := by rw [i_le, i_n _ (by omega), ik_16] at h42; omega
                   have h0 : ¬ b k = 0 := by rw [i_le, i_n _ (by omega), i_0] at h9; omega
                   rw [hW, rg_hit hkn (ac0 hd (hp k hkn).1 h0 h16)]
                   by_cases hk1 : k + 1 < n
                   · refine rg_bad hk1 ?_
                     rw [acc_1 rfl]
                     refine decide_eq_false (fun q => ?_)
                     have q1 := hi1.mpr ⟨hk1, by
                       have hb1 := (hp _ hk1).2
                       rw [(hp _ hk1).1, i_le, i_le, i_n (b (k + 1)) (by omega), ik_1, ik_16] at q
                       omega⟩
                     rw [q1] at h57
                     exact absurd h57 (by decide)
                   · exact rg_end (by omega) (show ¬ (1 : Nat) = 8 by decide))
                | (refine hbad (k + 2) (by omega) ?_
                   have h16 : b k ≤ 16 := by rw [i_le, i_n _ (by omega), ik_16] at h42; omega
                   have h0 : ¬ b k = 0 := by rw [i_le, i_n _ (by omega), i_0] at h9; omega
                   have g1 := hi1.mp (zb_ne0.mp h57)
                   rw [hW, rg_hit hkn (ac0 hd (hp k hkn).1 h0 h16), rg_hit g1.1 (ac1 rfl (hp _ g1.1).1 g1.2.1 g1.2.2)]
                   by_cases hk2 : k + 2 < n
                   · refine rg_bad hk2 ?_
                     rw [acc_2 rfl]
                     refine decide_eq_false (fun q => h69 (hi2.mpr ⟨hk2, ?_⟩))
                     have hb2 := (hp _ hk2).2
                     rw [(hp _ hk2).1, i_le, ik_1, i_n _ (by omega)] at q
                     omega
                   · exact rg_end (by omega) (show ¬ (2 : Nat) = 8 by decide))
                | (have h16 : b k ≤ 16 := by rw [i_le, i_n _ (by omega), ik_16] at h42; omega
                   have h0 : ¬ b k = 0 := by rw [i_le, i_n _ (by omega), i_0] at h9; omega
                   have g1 := hi1.mp (zb_ne0.mp h57)
                   have g2 := hi2.mp h69
                   have hb2 := (hp _ g2.1).2
                   rw [rg_hit hkn (ac0 hd (hp k hkn).1 h0 h16), rg_hit g1.1 (ac1 rfl (hp _ g1.1).1 g1.2.1 g1.2.2), rg_hit g2.1 (ac2 rfl (hp _ g2.1).1 g2.2)] at hW
                   rw [show bo n p (k + 1) = nI (b (k + 1)) from (if_pos g1.1).trans (hp _ g1.1).1, show bo n p (k + 2) = nI (b (k + 2)) from (if_pos g2.1).trans (hp _ g2.1).1]
                   refine R_istore (q := 81) rfl rfl (Nat.le_of_ble_eq_true rfl) rfl ?_
                   dsimp only [List.set]
                   refine R_iload (q := 83) rfl rfl rfl ?_
                   refine R_if_lt (q := 86) (t := 91) rfl rfl rfl (fun h83 => ?_) (fun h83 => absurd (by decide) h83)
                   refine R_iinc (q := 94) rfl rfl rfl (nI_i3 k) rfl ?_
                   dsimp only [List.set]
                   refine R_iconst (q := 95) (v := nI 0) rfl rfl (by decide) ?_
                   refine R_istore (q := 97) rfl rfl (Nat.le_of_ble_eq_true rfl) rfl ?_
                   dsimp only [List.set]
                   refine m199_ln (k0 := k) (W := W) hn hI hA hp ⟨by omega, h16⟩ g1.2 (by omega) (fun k2 tot2 r2 f2 F2 t4 t5 t6 t7 t8 t9 t10 t11 t12 q1 q2 q3 q4 q5 q6 q7 => ih k2 tot2 r2 f2 F2 _ _ _ _ _ _ _ _ _ (by omega) q2 q3 q4 q5 q6 q7) (fun F2 q1 q2 => ⟨rfl, F2, rfl, ?_⟩) (b (k + 2)) 0 (k + 3) tot _ f F _ _ _ _ _ (by omega) (by omega) (by omega) hW ⟨by rw [if_pos (by omega)], rfl, rfl, rfl, ht⟩ (by omega) hm
                   rcases q1 with q1 | ⟨s, q1, q3⟩
                   · exact Or.inl q1
                   · exact Or.inr ⟨s, q1, q3, Or.inl q2⟩)
          · refine R_iload_n (q := 61) rfl rfl rfl ?_
            refine R_iconst (q := 62) (v := nI 1) rfl rfl (by decide) ?_
            refine R_iadd (q := 63) rfl rfl ?_
            rw [nI_add]
            refine R_goto (t := 79) rfl rfl ?_
            first
              | (refine hbad k (by omega) ?_
                 rw [hW]
                 refine rg_bad hkn ?_
                 rw [acc_0 hd, (hp k hkn).1]
                 refine decide_eq_false (fun q => h42 q))
              | (refine hbad (k + 1) (by omega) ?_
                 have h16 : b k ≤ 16 := by rw [i_le, i_n _ (by omega), ik_16] at h42; omega
                 have h0 : ¬ b k = 0 := by rw [i_le, i_n _ (by omega), i_0] at h9; omega
                 rw [hW, rg_hit hkn (ac0 hd (hp k hkn).1 h0 h16)]
                 by_cases hk1 : k + 1 < n
                 · refine rg_bad hk1 ?_
                   rw [acc_1 rfl]
                   refine decide_eq_false (fun q => ?_)
                   have q1 := hi1.mpr ⟨hk1, by
                     have hb1 := (hp _ hk1).2
                     rw [(hp _ hk1).1, i_le, i_le, i_n (b (k + 1)) (by omega), ik_1, ik_16] at q
                     omega⟩
                   rw [q1] at h57
                   exact absurd h57 (by decide)
                 · exact rg_end (by omega) (show ¬ (1 : Nat) = 8 by decide))
              | (refine hbad (k + 2) (by omega) ?_
                 have h16 : b k ≤ 16 := by rw [i_le, i_n _ (by omega), ik_16] at h42; omega
                 have h0 : ¬ b k = 0 := by rw [i_le, i_n _ (by omega), i_0] at h9; omega
                 have g1 := hi1.mp (zb_ne0.mp h57)
                 rw [hW, rg_hit hkn (ac0 hd (hp k hkn).1 h0 h16), rg_hit g1.1 (ac1 rfl (hp _ g1.1).1 g1.2.1 g1.2.2)]
                 by_cases hk2 : k + 2 < n
                 · refine rg_bad hk2 ?_
                   rw [acc_2 rfl]
                   refine decide_eq_false (fun q => h69 (hi2.mpr ⟨hk2, ?_⟩))
                   have hb2 := (hp _ hk2).2
                   rw [(hp _ hk2).1, i_le, ik_1, i_n _ (by omega)] at q
                   omega
                 · exact rg_end (by omega) (show ¬ (2 : Nat) = 8 by decide))
              | (have h16 : b k ≤ 16 := by rw [i_le, i_n _ (by omega), ik_16] at h42; omega
                 have h0 : ¬ b k = 0 := by rw [i_le, i_n _ (by omega), i_0] at h9; omega
                 have g1 := hi1.mp (zb_ne0.mp h57)
                 have g2 := hi2.mp h69
                 have hb2 := (hp _ g2.1).2
                 rw [rg_hit hkn (ac0 hd (hp k hkn).1 h0 h16), rg_hit g1.1 (ac1 rfl (hp _ g1.1).1 g1.2.1 g1.2.2), rg_hit g2.1 (ac2 rfl (hp _ g2.1).1 g2.2)] at hW
                 rw [show bo n p (k + 1) = nI (b (k + 1)) from (if_pos g1.1).trans (hp _ g1.1).1, show bo n p (k + 2) = nI (b (k + 2)) from (if_pos g2.1).trans (hp _ g2.1).1]
                 refine R_istore (q := 81) rfl rfl (Nat.le_of_ble_eq_true rfl) rfl ?_
                 dsimp only [List.set]
                 refine R_iload (q := 83) rfl rfl rfl ?_
                 refine R_if_lt (q := 86) (t := 91) rfl rfl rfl (fun h83 => ?_) (fun h83 => absurd (by decide) h83)
                 refine R_iinc (q := 94) rfl rfl rfl (nI_i3 k) rfl ?_
                 dsimp only [List.set]
                 refine R_iconst (q := 95) (v := nI 0) rfl rfl (by decide) ?_
                 refine R_istore (q := 97) rfl rfl (Nat.le_of_ble_eq_true rfl) rfl ?_
                 dsimp only [List.set]
                 refine m199_ln (k0 := k) (W := W) hn hI hA hp ⟨by omega, h16⟩ g1.2 (by omega) (fun k2 tot2 r2 f2 F2 t4 t5 t6 t7 t8 t9 t10 t11 t12 q1 q2 q3 q4 q5 q6 q7 => ih k2 tot2 r2 f2 F2 _ _ _ _ _ _ _ _ _ (by omega) q2 q3 q4 q5 q6 q7) (fun F2 q1 q2 => ⟨rfl, F2, rfl, ?_⟩) (b (k + 2)) 0 (k + 3) tot _ f F _ _ _ _ _ (by omega) (by omega) (by omega) hW ⟨by rw [if_pos (by omega)], rfl, rfl, rfl, ht⟩ (by omega) hm
                 rcases q1 with q1 | ⟨s, q1, q3⟩
                 · exact Or.inl q1
                 · exact Or.inr ⟨s, q1, q3, Or.inl q2⟩)
        · refine R_iload_n (q := 46) rfl rfl rfl ?_
          refine R_goto (t := 79) rfl rfl ?_
          first
            | (refine hbad k (by omega) ?_
               rw [hW]
               refine rg_bad hkn ?_
               rw [acc_0 hd, (hp k hkn).1]
               refine decide_eq_false (fun q => h42 q))
            | (refine hbad (k + 1) (by omega) ?_
               have h16 : b k ≤ 16 := by rw [i_le, i_n _ (by omega), ik_16] at h42; omega
               have h0 : ¬ b k = 0 := by rw [i_le, i_n _ (by omega), i_0] at h9; omega
               rw [hW, rg_hit hkn (ac0 hd (hp k hkn).1 h0 h16)]
               by_cases hk1 : k + 1 < n
               · refine rg_bad hk1 ?_
                 rw [acc_1 rfl]
                 refine decide_eq_false (fun q => ?_)
                 have q1 := hi1.mpr ⟨hk1, by
                   have hb1 := (hp _ hk1).2
                   rw [(hp _ hk1).1, i_le, i_le, i_n (b (k + 1)) (by omega), ik_1, ik_16] at q
                   omega⟩
                 rw [q1] at h57
                 exact absurd h57 (by decide)
               · exact rg_end (by omega) (show ¬ (1 : Nat) = 8 by decide))
            | (refine hbad (k + 2) (by omega) ?_
               have h16 : b k ≤ 16 := by rw [i_le, i_n _ (by omega), ik_16] at h42; omega
               have h0 : ¬ b k = 0 := by rw [i_le, i_n _ (by omega), i_0] at h9; omega
               have g1 := hi1.mp (zb_ne0.mp h57)
               rw [hW, rg_hit hkn (ac0 hd (hp k hkn).1 h0 h16), rg_hit g1.1 (ac1 rfl (hp _ g1.1).1 g1.2.1 g1.2.2)]
               by_cases hk2 : k + 2 < n
               · refine rg_bad hk2 ?_
                 rw [acc_2 rfl]
                 refine decide_eq_false (fun q => h69 (hi2.mpr ⟨hk2, ?_⟩))
                 have hb2 := (hp _ hk2).2
                 rw [(hp _ hk2).1, i_le, ik_1, i_n _ (by omega)] at q
                 omega
               · exact rg_end (by omega) (show ¬ (2 : Nat) = 8 by decide))
            | (have h16 : b k ≤ 16 := by rw [i_le, i_n _ (by omega), ik_16] at h42; omega
               have h0 : ¬ b k = 0 := by rw [i_le, i_n _ (by omega), i_0] at h9; omega
               have g1 := hi1.mp (zb_ne0.mp h57)
               have g2 := hi2.mp h69
               have hb2 := (hp _ g2.1).2
               rw [rg_hit hkn (ac0 hd (hp k hkn).1 h0 h16), rg_hit g1.1 (ac1 rfl (hp _ g1.1).1 g1.2.1 g1.2.2), rg_hit g2.1 (ac2 rfl (hp _ g2.1).1 g2.2)] at hW
               rw [show bo n p (k + 1) = nI (b (k + 1)) from (if_pos g1.1).trans (hp _ g1.1).1, show bo n p (k + 2) = nI (b (k + 2)) from (if_pos g2.1).trans (hp _ g2.1).1]
               refine R_istore (q := 81) rfl rfl (Nat.le_of_ble_eq_true rfl) rfl ?_
               dsimp only [List.set]
               refine R_iload (q := 83) rfl rfl rfl ?_
               refine R_if_lt (q := 86) (t := 91) rfl rfl rfl (fun h83 => ?_) (fun h83 => absurd (by decide) h83)
               refine R_iinc (q := 94) rfl rfl rfl (nI_i3 k) rfl ?_
               dsimp only [List.set]
               refine R_iconst (q := 95) (v := nI 0) rfl rfl (by decide) ?_
               refine R_istore (q := 97) rfl rfl (Nat.le_of_ble_eq_true rfl) rfl ?_
               dsimp only [List.set]
               refine m199_ln (k0 := k) (W := W) hn hI hA hp ⟨by omega, h16⟩ g1.2 (by omega) (fun k2 tot2 r2 f2 F2 t4 t5 t6 t7 t8 t9 t10 t11 t12 q1 q2 q3 q4 q5 q6 q7 => ih k2 tot2 r2 f2 F2 _ _ _ _ _ _ _ _ _ (by omega) q2 q3 q4 q5 q6 q7) (fun F2 q1 q2 => ⟨rfl, F2, rfl, ?_⟩) (b (k + 2)) 0 (k + 3) tot _ f F _ _ _ _ _ (by omega) (by omega) (by omega) hW ⟨by rw [if_pos (by omega)], rfl, rfl, rfl, ht⟩ (by omega) hm
               rcases q1 with q1 | ⟨s, q1, q3⟩
               · exact Or.inl q1
               · exact Or.inr ⟨s, q1, q3, Or.inl q2⟩)
set_option maxRecDepth 8000 in
theorem m199 {n : Nat} {p : Nat → Int32} {b : Nat → Nat} {z : Int32} {r : RS} {f F : Nat → Int32} (hn : n ≤ 400) (hI : I 48 = nI n) (hA : ∀ i, i < n → A 109 i = p i) (hp : ∀ i, i < n → p i = nI (b i) ∧ b i ≤ 255) (hd : r.due = 0) (ht : r.tot = nI 0) (hm : MO A sh z f F) : mm_R S (d + 2) 199 0 (mm_en 199 [.ref 73, .int z]) [] (mdm M (upa A 74 F) I) (fun v M' => v = some (.int (rg n p 0 r f).1) ∧ ∃ F', M' = (mdm M (upa A 74 F') I) ∧ ((¬ shp z ∧ F' = A 74) ∨ ∃ s, s < 6 ∧ z = nI s ∧ ((rg n p 0 r f).1.toInt < 0 ∨ CRl (upa A 74 F') (ups sh s (rg n p 0 r f).2.2.2)))) := by
  show mm_R S (d + 2) 199 0 [some (.ref 73), some (.int z), none, none, none, none, none, none, none, none, none, none, none] [] (mdm M (upa A 74 F) I) _
  refine R_iconst (q := 1) (v := nI 0) rfl rfl (by decide) ?_
  refine R_istore_n (q := 2) rfl rfl (Nat.le_of_ble_eq_true rfl) rfl ?_
  dsimp only [List.set]
  refine R_iconst (q := 3) (v := nI 0) rfl rfl (by decide) ?_
  refine R_istore_n (q := 4) rfl rfl (Nat.le_of_ble_eq_true rfl) rfl ?_
  dsimp only [List.set]
  exact m199_hd hn hI hA hp n 0 0 r f F _ _ _ _ _ _ _ _ _ (by omega) (by omega) hd ht (by omega) hm rfl
set_option maxRecDepth 8000 in
theorem m200 {s a : Int32} {G : Nat → Int32} (hV : VS sh o l pi fa tp) (h : MRl A I sh o l pi fa tp) (hR : RED tp a G) : mm_R S (d + 3) 200 0 (mm_en 200 [.ref 73, .int s]) [] (mdm M A I) (fun v M' => FM (mdm M A I) M' ∧ (¬ shp s ∧ v = some (.int (-1000)) ∧ MI M' sh o l pi fa tp ∨ shp s ∧ v = some (.int a) ∧ (a < 0 ∧ MI M' sh o l pi fa (0, tp.2) ∨ ¬ a < 0 ∧ MI M' (ups sh (sn s) (ifl G (sh (sn s)) 16)) o l pi fa (0, tp.2)))) := by
  show mm_R S (d + 3) 200 0 [some (.ref 73), some (.int s), none, none] [] (mdm M A I) _
  obtain ⟨r1, r2, r3, r4, r5, r6, ⟨r7a, r7b⟩, r8⟩ := id h
  have hn := hV.2.2.2.2.2.1
  have hp : ∀ i, i < tp.1 → tp.2 i = nI (tp.2 i).toNatClampNeg ∧ (tp.2 i).toNatClampNeg ≤ 255 := by
    intro i hi
    have g := hV.2.2.2.2.2.2 i hi
    obtain ⟨j, hj, hje⟩ := i_ix (a := tp.2 i) 256 (by decide) g.1 (by omega)
    rw [hje, cl_nI (by omega)]
    exact ⟨rfl, by omega⟩
  obtain ⟨r0, g0, ha, hG⟩ := hR
  have haW : a = (rg tp.1 tp.2 0 (rst r0) (ifl (fun _ => nI 0) g0 16)).1 := ha
  have hGW : G = (rg tp.1 tp.2 0 (rst r0) (ifl (fun _ => nI 0) g0 16)).2.2.2 := hG
  refine R_iload_n (q := 1) rfl rfl rfl ?_
  refine R_calls1 (q := 4) rfl rfl rfl rfl (Nat.le_of_ble_eq_true rfl) rfl ?_
  refine R_mono (m148) (fun v1 M1 hr1 => ?_)
  obtain ⟨rfl, hm1⟩ := hr1
  rw [hm1]
  dsimp only [Option.toList, List.cons_append, List.nil_append]
  refine R_if_ne (q := 7) (t := 11) rfl rfl rfl (fun h4 => ?_) (fun h4 => ?_)
  · have hP : shp s := of_decide_eq_true (zb_ne0.mp h4)
    obtain ⟨k, hk, rfl⟩ := i_ix (a := s) 6 (by decide) hP.1 hP.2
    rw [show sn (nI k) = k from cl_nI (by omega)]
    have h49 : ∀ (F : Nat → Int32) (t2 t3 : Option Value), ¬ a < 0 → CRl (upa A 74 F) (ups sh k (ifl (fun _ => nI 0) g0 16)) → mm_R S (d + 3) 200 49 [some (.ref 73), some (.int (nI k)), t2, t3] [] (mdm M (upa A 74 F) I) (fun v M' => FM (mdm M A I) M' ∧ (¬ shp (nI k) ∧ v = some (.int (-1000)) ∧ MI M' sh o l pi fa tp ∨ shp (nI k) ∧ v = some (.int a) ∧ (a < 0 ∧ MI M' sh o l pi fa (0, tp.2) ∨ ¬ a < 0 ∧ MI M' (ups sh k (ifl G (sh k) 16)) o l pi fa (0, tp.2)))) := by
      intro F t2 t3 han hcr
      refine R_aload_n (q := 50) rfl rfl rfl ?_
      refine R_iload_n (q := 51) rfl rfl rfl ?_
      refine R_callv1 (q := 54) rfl rfl rfl rfl md_73 (Nat.le_of_ble_eq_true rfl) rfl ?_
      refine R_mono (m199 (sh := sh) (r := rst r0) (f := ifl (fun _ => nI 0) g0 16) hn r7a r7b hp rfl rfl (Or.inr ⟨k, hk, rfl, hcr⟩)) (fun v51 M51 hr51 => ?_)
      obtain ⟨rfl, F2, hm51, hF51⟩ := hr51
      rw [hm51]
      dsimp only [Option.toList, List.cons_append, List.nil_append]
      refine R_istore_n (q := 55) rfl rfl (Nat.le_of_ble_eq_true rfl) rfl ?_
      dsimp only [List.set]
      refine R_aload_n (q := 56) rfl rfl rfl ?_
      refine R_iconst (q := 57) (v := nI 0) rfl rfl (by decide) ?_
      refine R_putf (q := 60) rfl rfl rfl md_73 (Nat.le_of_ble_eq_true rfl) rfl (fun hf => absurd hf (by decide)) rfl ?_
      dsimp only [List.set]
      rw [md_f48]
      refine R_iload_n (q := 61) rfl rfl rfl ?_
      refine R_ireturn rfl rfl ?_
      have hF3 : CRl (upa A 74 F2) (ups sh k (ifl G (sh k) 16)) := by
        rcases hF51 with ⟨q, -⟩ | ⟨s, q1, q2, q3⟩
        · exact absurd hP q
        · have hks : k = s := nI_inj (by omega) (by omega) q2
          subst hks
          rcases q3 with q3 | q3
          · exact absurd ((i_lt _ _).mpr (by rw [haW, i_0]; exact q3)) han
          · refine CR_cg q3 (fun y x hy hx => ?_)
            rw [ifl_lt hy, hGW]
      refine ⟨FM_md, Or.inr ⟨hP, congrArg some (congrArg Value.int haW.symm), Or.inr ⟨han, MI_md ⟨hF3, r2, r3, r4, r5, r6, ⟨rfl, fun i hi => absurd hi (Nat.not_lt_zero _)⟩, r8⟩⟩⟩⟩
    have hlp : ∀ (j i : Nat), ¬ a < 0 → i + j = 256 → mm_R S (d + 3) 200 23 [some (.ref 73), some (.int (nI k)), some (.int a), some (.int (nI i))] [] (mdm M (upa A 74 (ifr (fun _ => nI 0) (A 74) (256 * k) (256 * k + i))) I) (fun v M' => FM (mdm M A I) M' ∧ (¬ shp (nI k) ∧ v = some (.int (-1000)) ∧ MI M' sh o l pi fa tp ∨ shp (nI k) ∧ v = some (.int a) ∧ (a < 0 ∧ MI M' sh o l pi fa (0, tp.2) ∨ ¬ a < 0 ∧ MI M' (ups sh k (ifl G (sh k) 16)) o l pi fa (0, tp.2)))) := by
      intro j
      induction j with
      | zero =>
        intro i han hi
        have hii : i = 256 := by omega
        subst hii
        refine R_iload_n (q := 24) rfl rfl rfl ?_
        refine R_sipush (q := 27) (v := nI 256) rfl rfl (by decide) ?_
        refine R_icmp_ge (q := 30) (t := 49) rfl rfl rfl (fun h27 => ?_) (fun h27 => absurd (nI_le (by omega) (by omega)) h27)
        refine h49 _ _ _ han ?_
        refine CR_loop r1 hk (fun y x hy hx => ?_)
        rw [ifl_lt hy]
        show nI 0 = zb (bt (nI 0) x)
        rw [show bt (nI 0) x = false from b_0 x]
        rfl
      | succ j ih =>
        intro i han hi
        refine R_iload_n (q := 24) rfl rfl rfl ?_
        refine R_sipush (q := 27) (v := nI 256) rfl rfl (by decide) ?_
        refine R_icmp_ge (q := 30) (t := 49) rfl rfl rfl (fun h27 => absurd h27 (nI_ge (by omega) (by omega))) (fun h27 => ?_)
        refine R_aload_n (q := 31) rfl rfl rfl ?_
        refine R_getf (q := 34) rfl rfl rfl md_73 rfl ?_
        refine R_sipush (q := 37) (v := nI 256) rfl rfl (by decide) ?_
        refine R_iload_n (q := 38) rfl rfl rfl ?_
        refine R_imul (q := 39) rfl rfl ?_
        rw [pk_mul]
        refine R_iload_n (q := 40) rfl rfl rfl ?_
        refine R_iadd (q := 41) rfl rfl ?_
        rw [nI_add]
        refine R_iconst (q := 42) (v := nI 0) rfl rfl (by decide) ?_
        refine R_bastore (q := 43) rfl rfl md_74 (by first | assumption | exact in_nI (by omega) (by decide)) (by first | exact Or.inl rfl | exact Or.inr rfl) ?_
        rw [cl_nI (by omega)]
        rw [upa_e]
        rw [md_p74]
        refine R_iinc (q := 46) rfl rfl rfl (nI_i1 i) rfl ?_
        dsimp only [List.set]
        refine R_goto (t := 23) rfl rfl ?_
        rw [upa_u, ifr_s (n := fun _ => nI 0) (by omega)]
        exact ih (i + 1) han (by omega)
    have hr13' := m199 (M := M) (A := A) (I := I) (S := S) (d := d) (sh := sh) (z := -1) (F := A 74) (r := rst r0) (f := ifl (fun _ => nI 0) g0 16) hn r7a r7b hp rfl rfl (Or.inl ⟨by decide, rfl⟩)
    rw [upa_s] at hr13' 
    refine R_aload_n (q := 12) rfl rfl rfl ?_
    refine R_iconst (q := 13) (v := (-1)) rfl rfl (by decide) ?_
    refine R_callv1 (q := 16) rfl rfl rfl rfl md_73 (Nat.le_of_ble_eq_true rfl) rfl ?_
    refine R_mono (hr13') (fun v13 M13 hr13 => ?_)
    obtain ⟨rfl, F2, hm13, hF13⟩ := hr13
    rw [hm13]
    dsimp only [Option.toList, List.cons_append, List.nil_append]
    have hF2 : F2 = A 74 := by
      rcases hF13 with ⟨-, q⟩ | ⟨s, q1, q2, -⟩
      · exact q
      · exact absurd (q2 ▸ shp_n q1) (by decide)
    rw [hF2, upa_s, ← haW]
    refine R_istore_n (q := 17) rfl rfl (Nat.le_of_ble_eq_true rfl) rfl ?_
    dsimp only [List.set]
    refine R_iload_n (q := 18) rfl rfl rfl ?_
    refine R_if_lt (q := 21) (t := 55) rfl rfl rfl (fun h18 => ?_) (fun h18 => ?_)
    · refine R_aload_n (q := 56) rfl rfl rfl ?_
      refine R_iconst (q := 57) (v := nI 0) rfl rfl (by decide) ?_
      refine R_putf (q := 60) rfl rfl rfl md_73 (Nat.le_of_ble_eq_true rfl) rfl (fun hf => absurd hf (by decide)) rfl ?_
      dsimp only [List.set]
      rw [md_f48]
      refine R_iload_n (q := 61) rfl rfl rfl ?_
      refine R_ireturn rfl rfl ?_
      refine ⟨FM_md, Or.inr ⟨hP, rfl, Or.inl ⟨h18, MI_md ⟨r1, r2, r3, r4, r5, r6, ⟨rfl, fun i hi => absurd hi (Nat.not_lt_zero _)⟩, r8⟩⟩⟩⟩
    · refine R_iconst (q := 22) (v := nI 0) rfl rfl (by decide) ?_
      refine R_istore_n (q := 23) rfl rfl (Nat.le_of_ble_eq_true rfl) rfl ?_
      dsimp only [List.set]
      have h0 := hlp 256 0 (fun q => h18 q) (by omega)
      rw [show 256 * k + 0 = 256 * k from rfl, ifr_0, upa_s] at h0
      exact h0
  · refine R_sipush (q := 10) (v := (-1000)) rfl rfl (by decide) ?_
    refine R_ireturn rfl rfl ?_
    exact ⟨FM_md, Or.inl ⟨of_decide_eq_false (zb_eq0.mp h4), rfl, MI_md h⟩⟩
end P50
