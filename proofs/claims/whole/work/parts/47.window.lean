/-! ===== size: the window against the steps ===== -/
def Hp (f : Nat → Int32) (x y : Int) : Prop := (0 ≤ x ∧ x < 16) ∧ (0 ≤ y ∧ y < 16) ∧ bt (f y.toNat) x.toNat = true
theorem hs_H {f : Nat → Int32} {x y : Int32} : hs f x y = true ↔ Hp f x.toInt y.toInt := by
  unfold hs Hp rowv
  rw [Bool.and_eq_true, decide_eq_true_eq]
  have e1 : x.toNatClampNeg = x.toInt.toNat := rfl
  have e2 : y.toNatClampNeg = y.toInt.toNat := rfl
  by_cases hy : 0 ≤ y.toInt ∧ y.toInt < 16
  · rw [if_pos hy, e1, e2]
    exact ⟨fun h => ⟨h.1, hy, h.2⟩, fun h => ⟨h.1, h.2.2⟩⟩
  · rw [if_neg hy, show nI 0 = 0 from rfl, b_0]
    exact ⟨fun h => absurd h.2 (by decide), fun h => absurd h.2.1 hy⟩
theorem Hp_n {f : Nat → Int32} {x y : Nat} (hx : x < 16) (hy : y < 16) : Hp f x y ↔ bt (f y) x = true := ⟨fun h => h.2.2, fun h => ⟨by omega, by omega, h⟩⟩
/-- a row's bit, by a whole number -/
def rb (v : Int32) (x : Int) : Prop := (0 ≤ x ∧ x < 16) ∧ bt v x.toNat = true
theorem rb_gr {v : Int32} (h : hb v) {x : Nat} (hx : x < 16) : bt (gr1 v) x = true ↔ (rb v (x - 1) ∨ rb v x ∨ rb v (x + 1)) := by
  unfold gr1 rb
  rw [b_or, b_or, Bool.or_eq_true, Bool.or_eq_true, b_shl 1 (by decide) v (by omega), b_sshr 1 (by decide) v (by omega), if_pos (by omega), Bool.and_eq_true, decide_eq_true_eq]
  have e1 : ((x : Int) - 1).toNat = x - 1 := by omega
  have e2 : ((x : Int) + 1).toNat = 1 + x := by omega
  have e3 : (x : Int).toNat = x := by omega
  rw [e1, e2, e3]
  have h16 : bt v 16 = false := h 16 (by decide)
  constructor
  · intro q
    rcases q with (q | q) | q
    · exact Or.inr (Or.inl ⟨by omega, q⟩)
    · exact Or.inl ⟨by omega, q.2⟩
    · refine Or.inr (Or.inr ⟨?_, q⟩)
      by_cases h15 : x = 15
      · subst h15; rw [show 1 + 15 = 16 from rfl, h16] at q; exact absurd q (by decide)
      · omega
  · intro q
    rcases q with q | q | q
    · exact Or.inl (Or.inr ⟨by omega, q.2⟩)
    · exact Or.inl (Or.inl q.2)
    · exact Or.inr q.2
theorem rb_sk {v : Int32} (h : hb v) {x : Nat} (hx : x < 16) : bt (sk1 v) x = true ↔ (rb v (x - 1) ∧ rb v x ∧ rb v (x + 1)) := by
  unfold sk1 rb
  rw [b_and, b_and, Bool.and_eq_true, Bool.and_eq_true, b_shl 1 (by decide) v (by omega), b_sshr 1 (by decide) v (by omega), if_pos (by omega), Bool.and_eq_true, decide_eq_true_eq]
  have e1 : ((x : Int) - 1).toNat = x - 1 := by omega
  have e2 : ((x : Int) + 1).toNat = 1 + x := by omega
  have e3 : (x : Int).toNat = x := by omega
  rw [e1, e2, e3]
  have h16 : bt v 16 = false := h 16 (by decide)
  constructor
  · intro q
    obtain ⟨⟨q1, q2, q3⟩, q4⟩ := q
    refine ⟨⟨by omega, q3⟩, ⟨by omega, q1⟩, ?_, q4⟩
    by_cases h15 : x = 15
    · subst h15; rw [show 1 + 15 = 16 from rfl, h16] at q4; exact absurd q4 (by decide)
    · omega
  · intro q
    obtain ⟨q1, q2, q3⟩ := q
    exact ⟨⟨q2.2, by omega, q1.2⟩, q3.2⟩
/-- a row by a whole number; none is off the plate -/
def rwZ (f : Nat → Int32) (y : Int) : Int32 := if 0 ≤ y ∧ y < 16 then f y.toNat else 0
theorem rb_rwZ {f : Nat → Int32} {x y : Int} : rb (rwZ f y) x ↔ Hp f x y := by
  unfold rb rwZ Hp
  by_cases hy : 0 ≤ y ∧ y < 16
  · rw [if_pos hy]
    exact ⟨fun h => ⟨h.1, hy, h.2⟩, fun h => ⟨h.1, h.2.2⟩⟩
  · rw [if_neg hy, b_0]
    exact ⟨fun h => absurd h.2 (by decide), fun h => absurd h.2.1 hy⟩
theorem hb_rwZ {f : Nat → Int32} {y : Int} (h : ∀ y, y < 16 → hb (f y)) : hb (rwZ f y) := by
  unfold rwZ
  split
  · exact h _ (by omega)
  · exact hb_0
theorem rwZ_p {f : Nat → Int32} {y : Nat} (hy : y < 16) : rowv f (nI (y + 1)) = rwZ f (y + 1) := by
  unfold rowv rwZ
  rw [i_n _ (by omega), cl_nI (by omega), show nI 0 = 0 from rfl]
  have e : ((y : Int) + 1).toNat = y + 1 := by omega
  rw [e]
  by_cases hq : (0 : Int) ≤ (y : Int) + 1 ∧ (y : Int) + 1 < 16
  · rw [if_pos hq, if_pos (by omega)]
  · rw [if_neg hq, if_neg (by omega)]
theorem gr0 : gr1 (nI 0) = nI 0 := by decide
theorem sk0 : sk1 (nI 0) = nI 0 := by decide
theorem rwZ_m {f : Nat → Int32} {y : Nat} (hy : y < 16) : (if y = 0 then nI 0 else gr1 (f (y - 1))) = gr1 (rwZ f (y - 1)) ∧ (if y = 0 then nI 0 else sk1 (f (y - 1))) = sk1 (rwZ f (y - 1)) := by
  unfold rwZ
  have e : ((y : Int) - 1).toNat = y - 1 := by omega
  rw [e]
  by_cases h0 : y = 0
  · rw [if_pos h0, if_neg (by omega), if_pos h0]
    exact ⟨gr0.symm, sk0.symm⟩
  · rw [if_neg h0, if_pos (by omega), if_neg h0]
    exact ⟨rfl, rfl⟩
theorem rwZ_0 {f : Nat → Int32} {y : Nat} (hy : y < 16) : f y = rwZ f y := by
  unfold rwZ
  rw [if_pos (by omega)]
  rfl
def nr1 (a : Int) : Prop := -1 ≤ a ∧ a ≤ 1
theorem grow_H {f : Nat → Int32} (h : ∀ y, y < 16 → hb (f y)) {x y : Int} : Hp (ifl (grn f) f 16) x y ↔ ((0 ≤ x ∧ x < 16) ∧ (0 ≤ y ∧ y < 16)) ∧ ∃ a b, nr1 a ∧ nr1 b ∧ Hp f (x + a) (y + b) := by
  by_cases hxy : (0 ≤ x ∧ x < 16) ∧ (0 ≤ y ∧ y < 16)
  · obtain ⟨n, rfl⟩ : ∃ n : Nat, x = n := ⟨x.toNat, by omega⟩
    obtain ⟨m, rfl⟩ : ∃ n : Nat, y = n := ⟨y.toNat, by omega⟩
    have hn : n < 16 := by omega
    have hm : m < 16 := by omega
    rw [Hp_n hn hm, ifl_lt hm]
    unfold grn
    rw [(rwZ_m hm).1, rwZ_p hm, b_and, b_65535, decide_eq_true hn, Bool.and_true, b_or, b_or, Bool.or_eq_true, Bool.or_eq_true, rb_gr (hb_rwZ h) hn, rb_gr (h m hm) hn, rb_gr (hb_rwZ h) hn, rwZ_0 (f := f) hm, rb_rwZ, rb_rwZ, rb_rwZ, rb_rwZ, rb_rwZ, rb_rwZ, rb_rwZ, rb_rwZ, rb_rwZ]
    simp only [Int.sub_eq_add_neg]
    have hz : ∀ a : Int, a + 0 = a := Int.add_zero
    constructor
    · intro q
      refine ⟨hxy, ?_⟩
      rcases q with (q | q) | q
      · rcases q with q | q | q
        · exact ⟨-1, -1, ⟨by decide, by decide⟩, ⟨by decide, by decide⟩, q⟩
        · exact ⟨0, -1, ⟨by decide, by decide⟩, ⟨by decide, by decide⟩, by rw [hz]; exact q⟩
        · exact ⟨1, -1, ⟨by decide, by decide⟩, ⟨by decide, by decide⟩, q⟩
      · rcases q with q | q | q
        · exact ⟨-1, 0, ⟨by decide, by decide⟩, ⟨by decide, by decide⟩, by rw [hz]; exact q⟩
        · exact ⟨0, 0, ⟨by decide, by decide⟩, ⟨by decide, by decide⟩, by rw [hz, hz]; exact q⟩
        · exact ⟨1, 0, ⟨by decide, by decide⟩, ⟨by decide, by decide⟩, by rw [hz]; exact q⟩
      · rcases q with q | q | q
        · exact ⟨-1, 1, ⟨by decide, by decide⟩, ⟨by decide, by decide⟩, q⟩
        · exact ⟨0, 1, ⟨by decide, by decide⟩, ⟨by decide, by decide⟩, by rw [hz]; exact q⟩
        · exact ⟨1, 1, ⟨by decide, by decide⟩, ⟨by decide, by decide⟩, q⟩
    · intro q
      obtain ⟨-, a, b, ha, hb', hq⟩ := q
      have ha3 : a = -1 ∨ a = 0 ∨ a = 1 := by unfold nr1 at ha; omega
      have hb3 : b = -1 ∨ b = 0 ∨ b = 1 := by unfold nr1 at hb'; omega
      rcases hb3 with rfl | rfl | rfl
      · left; left
        rcases ha3 with rfl | rfl | rfl
        · exact Or.inl hq
        · rw [hz] at hq; exact Or.inr (Or.inl hq)
        · exact Or.inr (Or.inr hq)
      · left; right
        rw [hz] at hq
        rcases ha3 with rfl | rfl | rfl
        · exact Or.inl hq
        · rw [hz] at hq; exact Or.inr (Or.inl hq)
        · exact Or.inr (Or.inr hq)
      · right
        rcases ha3 with rfl | rfl | rfl
        · exact Or.inl hq
        · rw [hz] at hq; exact Or.inr (Or.inl hq)
        · exact Or.inr (Or.inr hq)
  · exact ⟨fun q => absurd ⟨q.1, q.2.1⟩ hxy, fun q => absurd q.1 hxy⟩
theorem shrink_H {f : Nat → Int32} (h : ∀ y, y < 16 → hb (f y)) {x y : Int} : Hp (ifl (skn f) f 16) x y ↔ ((0 ≤ x ∧ x < 16) ∧ (0 ≤ y ∧ y < 16)) ∧ ∀ a b, nr1 a → nr1 b → Hp f (x + a) (y + b) := by
  by_cases hxy : (0 ≤ x ∧ x < 16) ∧ (0 ≤ y ∧ y < 16)
  · obtain ⟨n, rfl⟩ : ∃ n : Nat, x = n := ⟨x.toNat, by omega⟩
    obtain ⟨m, rfl⟩ : ∃ n : Nat, y = n := ⟨y.toNat, by omega⟩
    have hn : n < 16 := by omega
    have hm : m < 16 := by omega
    rw [Hp_n hn hm, ifl_lt hm]
    unfold skn
    rw [(rwZ_m hm).2, rwZ_p hm, b_and, b_and, Bool.and_eq_true, Bool.and_eq_true, rb_sk (hb_rwZ h) hn, rb_sk (h m hm) hn, rb_sk (hb_rwZ h) hn, rwZ_0 (f := f) hm, rb_rwZ, rb_rwZ, rb_rwZ, rb_rwZ, rb_rwZ, rb_rwZ, rb_rwZ, rb_rwZ, rb_rwZ]
    simp only [Int.sub_eq_add_neg]
    have hz : ∀ a : Int, a + 0 = a := Int.add_zero
    constructor
    · intro q
      refine ⟨hxy, fun a b ha hb' => ?_⟩
      obtain ⟨⟨⟨q1, q2, q3⟩, q4, q5, q6⟩, q7, q8, q9⟩ := q
      have ha3 : a = -1 ∨ a = 0 ∨ a = 1 := by unfold nr1 at ha; omega
      have hb3 : b = -1 ∨ b = 0 ∨ b = 1 := by unfold nr1 at hb'; omega
      rcases hb3 with rfl | rfl | rfl
      · rcases ha3 with rfl | rfl | rfl
        · exact q1
        · rw [hz]; exact q2
        · exact q3
      · rw [hz]
        rcases ha3 with rfl | rfl | rfl
        · exact q4
        · rw [hz]; exact q5
        · exact q6
      · rcases ha3 with rfl | rfl | rfl
        · exact q7
        · rw [hz]; exact q8
        · exact q9
    · intro q
      have k := q.2
      have m1 : nr1 (-1) := ⟨by decide, by decide⟩
      have m0 : nr1 0 := ⟨by decide, by decide⟩
      have p1 : nr1 1 := ⟨by decide, by decide⟩
      have k2 := k 0 (-1) m0 m1
      have k4 := k (-1) 0 m1 m0
      have k5 := k 0 0 m0 m0
      have k6 := k 1 0 p1 m0
      have k8 := k 0 1 m0 p1
      rw [hz] at k2 k4 k6 k8
      rw [hz, hz] at k5
      exact ⟨⟨⟨k (-1) (-1) m1 m1, k2, k 1 (-1) p1 m1⟩, k4, k5, k6⟩, k (-1) 1 m1 p1, k8, k 1 1 p1 p1⟩
  · exact ⟨fun q => absurd ⟨q.1, q.2.1⟩ hxy, fun q => absurd q.1 hxy⟩
def nrn (n : Nat) (a : Int) : Prop := -(n : Int) ≤ a ∧ a ≤ n
/-- a step on the way -/
theorem nrn_split {n : Nat} {a : Int} (h : nrn (n + 1) a) : ∃ b c, nrn n b ∧ nr1 c ∧ a = b + c ∧ ((0 ≤ b ∧ b ≤ a) ∨ (a ≤ b ∧ b ≤ 0)) := by
  unfold nrn nr1 at *
  by_cases h0 : a < 0
  · exact ⟨if a = -((n : Int) + 1) then a + 1 else a, if a = -((n : Int) + 1) then -1 else 0, by split <;> omega, by split <;> omega, by split <;> omega, Or.inr (by split <;> omega)⟩
  · exact ⟨if a = ((n : Int) + 1) then a - 1 else a, if a = ((n : Int) + 1) then 1 else 0, by split <;> omega, by split <;> omega, by split <;> omega, Or.inl (by split <;> omega)⟩
theorem itg_H : ∀ (n : Nat) (f : Nat → Int32), (∀ y, y < 16 → hb (f y)) → ∀ x y : Int, (0 ≤ x ∧ x < 16) ∧ (0 ≤ y ∧ y < 16) → (Hp (itf grn n f) x y ↔ ∃ a b, nrn n a ∧ nrn n b ∧ Hp f (x + a) (y + b)) := by
  intro n
  induction n with
  | zero =>
    intro f h x y hxy
    constructor
    · intro q; exact ⟨0, 0, ⟨by omega, by omega⟩, ⟨by omega, by omega⟩, by rw [Int.add_zero, Int.add_zero]; exact q⟩
    · intro q
      obtain ⟨a, b, ha, hb', hq⟩ := q
      have : a = 0 := by unfold nrn at ha; omega
      have : b = 0 := by unfold nrn at hb'; omega
      subst a b
      rw [Int.add_zero, Int.add_zero] at hq
      exact hq
  | succ n ih =>
    intro f h x y hxy
    have hstep : itf grn (n + 1) f = itf grn n (ifl (grn f) f 16) := rfl
    rw [hstep, ih _ (fun y hy => by rw [ifl_lt hy]; exact hb_grn y) x y hxy]
    constructor
    · intro q
      obtain ⟨a, b, ha, hb', hq⟩ := q
      obtain ⟨-, c, e, hc, he, hq⟩ := (grow_H h).mp hq
      refine ⟨a + c, b + e, ?_, ?_, by rw [← Int.add_assoc, ← Int.add_assoc]; exact hq⟩
      · unfold nrn nr1 at *; omega
      · unfold nrn nr1 at *; omega
    · intro q
      obtain ⟨a, b, ha, hb', hq⟩ := q
      obtain ⟨a1, a2, p1, p2, p3, p4⟩ := nrn_split ha
      obtain ⟨b1, b2, s1, s2, s3, s4⟩ := nrn_split hb'
      refine ⟨a1, b1, p1, s1, (grow_H h).mpr ⟨?_, a2, b2, p2, s2, by rw [Int.add_assoc, ← p3, Int.add_assoc, ← s3]; exact hq⟩⟩
      have := hq.1
      have := hq.2.1
      omega
theorem its_H : ∀ (n : Nat) (f : Nat → Int32), (∀ y, y < 16 → hb (f y)) → ∀ x y : Int, (0 ≤ x ∧ x < 16) ∧ (0 ≤ y ∧ y < 16) → (Hp (itf skn n f) x y ↔ ∀ a b, nrn n a → nrn n b → Hp f (x + a) (y + b)) := by
  intro n
  induction n with
  | zero =>
    intro f h x y hxy
    constructor
    · intro q a b ha hb'
      have : a = 0 := by unfold nrn at ha; omega
      have : b = 0 := by unfold nrn at hb'; omega
      subst a b
      rw [Int.add_zero, Int.add_zero]
      exact q
    · intro q
      have := q 0 0 ⟨by omega, by omega⟩ ⟨by omega, by omega⟩
      rw [Int.add_zero, Int.add_zero] at this
      exact this
  | succ n ih =>
    intro f h x y hxy
    have hstep : itf skn (n + 1) f = itf skn n (ifl (skn f) f 16) := rfl
    rw [hstep, ih _ (fun y hy => by rw [ifl_lt hy]; exact hb_skn h y hy) x y hxy]
    constructor
    · intro q a b ha hb'
      obtain ⟨a1, a2, p1, p2, p3, p4⟩ := nrn_split ha
      obtain ⟨b1, b2, s1, s2, s3, s4⟩ := nrn_split hb'
      have := ((shrink_H h).mp (q a1 b1 p1 s1)).2 a2 b2 p2 s2
      rw [Int.add_assoc, ← p3, Int.add_assoc, ← s3] at this
      exact this
    · intro q a b ha hb'
      have hz := q a b ⟨by unfold nrn at ha; omega, by unfold nrn at ha; omega⟩ ⟨by unfold nrn at hb'; omega, by unfold nrn at hb'; omega⟩
      refine (shrink_H h).mpr ⟨⟨hz.1, hz.2.1⟩, fun c e hc he => ?_⟩
      rw [Int.add_assoc, Int.add_assoc]
      exact q (a + c) (b + e) ⟨by unfold nrn nr1 at *; omega, by unfold nrn nr1 at *; omega⟩ ⟨by unfold nrn nr1 at *; omega, by unfold nrn nr1 at *; omega⟩
