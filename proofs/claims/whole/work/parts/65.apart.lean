/-! ===== as many as can stand apart ===== -/
def ssm (g : Nat → Nat) : Nat → Nat
  | 0 => 0
  | k + 1 => ssm g k + g k
theorem ssm_cg {g h : Nat → Nat} : ∀ k, (∀ l, l < k → g l = h l) → ssm g k = ssm h k := by
  intro k
  induction k with
  | zero => intro _; rfl
  | succ k ih => intro hh; show ssm g k + g k = ssm h k + h k; rw [ih (fun l hl => hh l (by omega)), hh k (by omega)]
theorem ssm_le {g h : Nat → Nat} : ∀ k, (∀ l, l < k → g l ≤ h l) → ssm g k ≤ ssm h k := by
  intro k
  induction k with
  | zero => intro _; exact Nat.le_refl _
  | succ k ih => intro hh; have h1 := ih (fun l hl => hh l (by omega)); have h2 := hh k (by omega); show ssm g k + g k ≤ ssm h k + h k; omega
theorem ssm_add {g h : Nat → Nat} : ∀ k, ssm (fun l => g l + h l) k = ssm g k + ssm h k := by
  intro k
  induction k with
  | zero => rfl
  | succ k ih => show ssm (fun l => g l + h l) k + (g k + h k) = (ssm g k + g k) + (ssm h k + h k); omega
theorem ssm_1 {g h : Nat → Nat} {i : Nat} : ∀ k, (∀ l, l < k → h l = g l + (if l = i then 1 else 0)) → ssm h k = ssm g k + (if i < k then 1 else 0) := by
  intro k
  induction k with
  | zero => intro _; rfl
  | succ k ih =>
    intro hh
    have h1 := ih (fun l hl => hh l (by omega))
    have h2 := hh k (by omega)
    show ssm h k + h k = ssm g k + g k + _
    rw [h1, h2]
    by_cases hq : k = i
    · rw [if_pos hq, if_neg (by omega), if_pos (by omega)]; omega
    · rw [if_neg hq]
      by_cases hlt : i < k
      · rw [if_pos hlt, if_pos (by omega)]; omega
      · rw [if_neg hlt, if_neg (by omega)]; omega
theorem ssm_c {b : Nat → Bool} : ∀ k, ssm (fun l => if b l = true then 1 else 0) k = cnr b k 0 := by
  intro k
  induction k with
  | zero => rfl
  | succ k ih =>
    rw [cnr_sn, Nat.zero_add, ← ih]
    rfl
def anb (A : Nat → Bool) (v : Int32) : Nat → Bool
  | 0 => false
  | k + 1 => anb A v k || (A k && decide (v = nI k))
theorem anb_iff {A : Nat → Bool} {v : Int32} : ∀ k, anb A v k = true ↔ ∃ l, l < k ∧ A l = true ∧ v = nI l := by
  intro k
  induction k with
  | zero => exact ⟨fun h => Bool.noConfusion (show false = true from h), fun ⟨l, h, _⟩ => absurd h (Nat.not_lt_zero _)⟩
  | succ k ih =>
    show (anb A v k || (A k && decide (v = nI k))) = true ↔ _
    rw [Bool.or_eq_true, Bool.and_eq_true, decide_eq_true_iff, ih]
    constructor
    · intro h
      rcases h with ⟨l, h1, h2, h3⟩ | ⟨h2, h3⟩
      · exact ⟨l, by omega, h2, h3⟩
      · exact ⟨k, by omega, h2, h3⟩
    · intro ⟨l, h1, h2, h3⟩
      by_cases hq : l = k
      · subst hq; exact Or.inr ⟨h2, h3⟩
      · exact Or.inl ⟨l, by omega, h2, h3⟩
section P65
variable {to : Nat → Int32} {am : Int32} {n lv : Nat}
theorem dcn {A : Nat → Bool} {p : Nat → Int32} : ∀ k, k ≤ 1000 → ssm (fun l => if A l = true then cl n lv p l else 0) k = cnr (fun j => anb A (p j) k) (n - lv) lv := by
  intro k
  induction k with
  | zero =>
    intro _
    show 0 = _
    have : ∀ j i, cnr (fun j => anb A (p j) 0) j i = 0 := by
      intro j
      induction j with
      | zero => intro i; rfl
      | succ j ih => intro i; show (if false = true then 1 else 0) + cnr _ j (i + 1) = 0; rw [if_neg (by decide), ih]
    rw [this]
  | succ k ih =>
    intro hk
    show ssm (fun l => if A l = true then cl n lv p l else 0) k + (if A k = true then cl n lv p k else 0) = _
    rw [ih (by omega)]
    have h1 : cnr (fun j => anb A (p j) (k + 1)) (n - lv) lv = cnr (fun j => anb A (p j) k) (n - lv) lv + cnr (fun j => A k && decide (p j = nI k)) (n - lv) lv := by
      refine cnr_add _ _ (fun j _ _ => ⟨?_, fun ⟨h3, h4⟩ => ?_⟩)
      · show (anb A (p j) k || (A k && decide (p j = nI k))) = true ↔ _
        rw [Bool.or_eq_true]
      · obtain ⟨l, l1, -, l3⟩ := (anb_iff k).mp h3
        rw [Bool.and_eq_true, decide_eq_true_iff] at h4
        have := nI_inj (by omega) (by omega) (l3.symm.trans h4.2)
        omega
    rw [h1]
    congr 1
    by_cases hA : A k = true
    · rw [if_pos hA]
      exact cnr_cg _ _ (fun j _ _ => by rw [hA, Bool.true_and])
    · rw [if_neg hA]
      have : ∀ j i, cnr (fun j => A k && decide (p j = nI k)) j i = 0 := by
        intro j
        induction j with
        | zero => intro i; rfl
        | succ j ih => intro i; show (if (A k && decide (p i = nI k)) = true then 1 else 0) + cnr _ j (i + 1) = 0; rw [ih, Bool.eq_false_iff.mpr hA, Bool.false_and, if_neg (by decide)]
      rw [this]
def indp (to : Nat → Int32) (n lv : Nat) (J : Nat → Bool) : Prop := ∀ i j, i < lv → lv ≤ j → j < n → J i = true → J j = true → ¬ bt (to i) j = true
def subm (n : Nat) (J : Nat → Bool) (am : Int32) : Prop := ∀ k, k < n → J k = true → bt am k = true
def GI (to : Nat → Int32) (am : Int32) (n lv i : Nat) (p : Nat → Int32) (m : Nat) : Prop := (POK n lv p ∧ EV to am n lv p) ∧ (∀ l, l < lv → cl n lv p l ≤ 1 ∧ (cl n lv p l = 1 → l < i ∧ bt am l = true)) ∧ m = ssm (fun l => cl n lv p l) lv ∧ ∃ zl zr : Nat → Prop, ZC to am n lv p zl zr ∧ (∀ l, l < i → l < lv → bt am l = true → cl n lv p l = 0 → zl l) ∧ ∀ l, zl l → (l < i ∧ l < lv) ∧ bt am l = true
theorem cnr_pos {a : Nat → Bool} {k j i : Nat} (h1 : i ≤ k) (h2 : k < i + j) (h3 : a k = true) : 1 ≤ cnr a j i := by
  refine Nat.pos_of_ne_zero (fun q => ?_)
  rw [cnr_0 j i q k h1 h2] at h3
  exact absurd h3 (by decide)
theorem cl_pos {p : Nat → Int32} {j l : Nat} (h1 : lv ≤ j) (h2 : j < n) (h : p j = nI l) : 1 ≤ cl n lv p l := cnr_pos h1 (by omega) (decide_eq_true h)
theorem gaL_G (hn : n ≤ 14) (hl : lv ≤ n) : ∀ (k i : Nat) (s : PS × Nat), i + k = lv → GI to am n lv i s.1.1 s.2 → GI to am n lv lv (gaL to am n lv k i s).1.1 (gaL to am n lv k i s).2 := by
  intro k
  induction k with
  | zero => intro i s hi h; have : i = lv := by omega
            rw [this] at h; exact h
  | succ k ih =>
    intro i s hi h
    obtain ⟨⟨h1, h2⟩, h3, h4, zl, zr, z1, z2, z3⟩ := id h
    have hil : i < lv := by omega
    have hci : cl n lv s.1.1 i = 0 := by
      have := h3 i hil
      refine Classical.byContradiction (fun q => ?_)
      have := this.2 (by omega)
      omega
    by_cases hb' : bt am i = true
    · have e1 : gaL to am n lv (k + 1) i s = gaL to am n lv k (i + 1) ((fp to am n lv 15 i (s.1.1, nI 0)).2, if (fp to am n lv 15 i (s.1.1, nI 0)).1 = true then s.2 + 1 else s.2) := by
        show gaL to am n lv k (i + 1) (if bt am i = true then _ else _) = _
        rw [if_pos hb']
      rw [e1]
      refine ih (i + 1) _ (by omega) ?_
      have hu : unt n lv (nI 0) < 15 := by have := cnr_le (g := fun j => !(bt (nI 0) j)) (n - lv) lv; unfold unt; omega
      have hD := fp_D (to := to) (am := am) hn hl 15 i (s.1.1, nI 0) hil h1 hu
      generalize fp to am n lv 15 i (s.1.1, nI 0) = R at hD ⊢
      by_cases hr : R.1 = true
      · rw [if_pos hr]
        obtain ⟨t1, t2, t3, t4, t5⟩ := hD.2 hr
        obtain ⟨g1, g2⟩ := t5 zl zr z1
        refine ⟨⟨t1, t4 h2⟩, fun l hl' => ?_, ?_, zl, zr, ⟨z1.1, fun j hj => ?_⟩, fun l a1 a2 a3 a4 => ?_, fun l a1 => ?_⟩
        · have := t3 l hl'
          have h5 := h3 l hl'
          have this : cl n lv R.2.1 l = cl n lv s.1.1 l + (if l = i then 1 else 0) := this
          by_cases hq : l = i
          · subst hq
            rw [if_pos rfl, hci] at this
            exact ⟨by show cl n lv R.2.1 l ≤ 1; omega, fun _ => ⟨by omega, hb'⟩⟩
          · rw [if_neg hq, Nat.add_zero] at this
            refine ⟨by show cl n lv R.2.1 l ≤ 1; omega, fun q => ?_⟩
            have q : cl n lv R.2.1 l = 1 := q
            rw [this] at q
            exact ⟨by have := (h5.2 q).1; omega, (h5.2 q).2⟩
        · show s.2 + 1 = ssm (fun l => cl n lv R.2.1 l) lv
          rw [ssm_1 (g := fun l => cl n lv s.1.1 l) (h := fun l => cl n lv R.2.1 l) (i := i) lv (fun l hl' => t3 l hl'), if_pos hil, h4]
        · obtain ⟨y1, l, y2, y3, y4⟩ := z1.2 j hj
          exact ⟨y1, l, y2, y3, (g2 j hj).trans y4⟩
        · have := t3 l a2
          have this : cl n lv R.2.1 l = cl n lv s.1.1 l + (if l = i then 1 else 0) := this
          have a4 : cl n lv R.2.1 l = 0 := a4
          by_cases hq : l = i
          · rw [if_pos hq] at this; omega
          · exact z2 l (by omega) a2 a3 (by omega)
        · have := z3 l a1; exact ⟨⟨by omega, this.1.2⟩, this.2⟩
      · rw [if_neg hr]
        obtain ⟨f1, ⟨f2, f3⟩, f4⟩ := hD.1 (Bool.eq_false_iff.mpr hr)
        have f1 : R.2.1 = s.1.1 := f1
        show GI to am n lv (i + 1) R.2.1 s.2
        rw [f1]
        have h0 : ∀ j, ¬ bt (nI 0) j = true := fun j q => by rw [show bt (nI 0) j = false from b_0 j] at q; exact absurd q (by decide)
        refine ⟨⟨h1, h2⟩, fun l hl' => ⟨(h3 l hl').1, fun q => ⟨by have := ((h3 l hl').2 q).1; omega, ((h3 l hl').2 q).2⟩⟩, h4, (fun l => zl l ∨ l = i ∨ ∃ j, (lv ≤ j ∧ j < n) ∧ bt R.2.2 j = true ∧ l < lv ∧ s.1.1 j = nI l), (fun j => zr j ∨ ((lv ≤ j ∧ j < n) ∧ bt R.2.2 j = true)), ⟨fun l j hz a1 a2 a3 => ?_, fun j hz => ?_⟩, fun l a1 a2 a3 a4 => ?_, fun l hz => ?_⟩
        · rcases hz with hz | hz | ⟨j2, b1, b2, b3, b4⟩
          · exact Or.inl (z1.1 l j hz a1 a2 a3)
          · rw [hz] at a3; exact Or.inr ⟨⟨a1, a2⟩, f4 j a1 a2 a3⟩
          · obtain ⟨l2, c1, c2, c3⟩ := f3 j2 b1.1 b1.2 b2 (h0 j2)
            have : l = l2 := nI_inj (by omega) (by omega) (b4.symm.trans c2)
            rw [← this] at c3
            exact Or.inr ⟨⟨a1, a2⟩, c3 j a1 a2 a3⟩
        · rcases hz with hz | ⟨hz1, hz2⟩
          · obtain ⟨y1, l, y2, y3, y4⟩ := z1.2 j hz
            exact ⟨y1, l, y2, Or.inl y3, y4⟩
          · obtain ⟨l2, c1, c2, c3⟩ := f3 j hz1.1 hz1.2 hz2 (h0 j)
            exact ⟨hz1, l2, c1, Or.inr (Or.inr ⟨j, hz1, hz2, c1, c2⟩), c2⟩
        · by_cases hq : l = i
          · exact Or.inr (Or.inl hq)
          · exact Or.inl (z2 l (by omega) a2 a3 a4)
        · rcases hz with hz | hz | ⟨j2, b1, b2, b3, b4⟩
          · have := z3 l hz; exact ⟨⟨by omega, this.1.2⟩, this.2⟩
          · rw [hz]; exact ⟨⟨by omega, hil⟩, hb'⟩
          · have := cl_pos (n := n) b1.1 b1.2 b4
            have h5 := h3 l b3
            have := h5.2 (by omega)
            exact ⟨⟨by omega, b3⟩, this.2⟩
    · have e1 : gaL to am n lv (k + 1) i s = gaL to am n lv k (i + 1) ((s.1.1, nI 0), s.2) := by
        show gaL to am n lv k (i + 1) (if bt am i = true then _ else _) = _
        rw [if_neg hb']
      rw [e1]
      refine ih (i + 1) _ (by omega) ⟨⟨h1, h2⟩, fun l hl' => ⟨(h3 l hl').1, fun q => ⟨by have := ((h3 l hl').2 q).1; omega, ((h3 l hl').2 q).2⟩⟩, h4, zl, zr, z1, fun l a1 a2 a3 a4 => ?_, fun l hz => ?_⟩
      · by_cases hq : l = i
        · rw [hq] at a3; exact absurd a3 hb'
        · exact z2 l (by omega) a2 a3 a4
      · have := z3 l hz; exact ⟨⟨by omega, this.1.2⟩, this.2⟩
def MIS (to : Nat → Int32) (n lv : Nat) (am : Int32) (a : Nat) : Prop := (∃ J, subm n J am ∧ indp to n lv J ∧ cnr J n 0 = a) ∧ ∀ J, subm n J am → indp to n lv J → cnr J n 0 ≤ a
theorem cnr_lr {a : Nat → Bool} (hl : lv ≤ n) : cnr a n 0 = cnr a lv 0 + cnr a (n - lv) lv := by
  have := cnr_app (a := a) lv (n - lv) 0
  rw [show lv + (n - lv) = n by omega, Nat.zero_add] at this
  exact this
theorem GI_MIS {p : Nat → Int32} {m : Nat} (hn : n ≤ 14) (hl : lv ≤ n) (h : GI to am n lv lv p m) : m ≤ cnr (bt am) n 0 ∧ MIS to n lv am (cnr (bt am) n 0 - m) := by
  obtain ⟨⟨h1, h2⟩, h3, h4, zl, zr, z1, z2, z3⟩ := h
  have hup : ∀ J, subm n J am → indp to n lv J → cnr J n 0 + m ≤ cnr (bt am) n 0 := by
    intro J hs hi
    have e1 : cnr (bt am) n 0 = cnr J n 0 + cnr (fun k => bt am k && !(J k)) n 0 := by
      refine cnr_add n 0 (fun k _ hk => ⟨?_, fun ⟨q1, q2⟩ => ?_⟩)
      · rw [Bool.and_eq_true]
        constructor
        · intro q
          cases hJ : J k
          · exact Or.inr ⟨q, rfl⟩
          · exact Or.inl rfl
        · intro q; rcases q with q | q; exact hs k (by omega) q; exact q.1
      · rw [q1, Bool.not_true, Bool.and_false] at q2; exact absurd q2 (by decide)
    rw [cnr_lr (a := fun k => bt am k && !(J k)) hl] at e1
    have e2 := dcn (n := n) (lv := lv) (A := fun _ => true) (p := p) lv (by omega)
    have e3 : ssm (fun l => if true = true then cl n lv p l else 0) lv = m := by
      rw [h4]
      exact ssm_cg lv (fun l _ => if_pos rfl)
    have e2 : m = cnr (fun j => anb (fun _ => true) (p j) lv) (n - lv) lv := e3.symm.trans e2
    have e4 : cnr (fun j => anb (fun _ => true) (p j) lv) (n - lv) lv = cnr (fun j => anb (fun _ => true) (p j) lv && !(J j)) (n - lv) lv + cnr (fun j => anb (fun _ => true) (p j) lv && J j) (n - lv) lv := by
      refine cnr_add _ _ (fun k _ _ => ?_)
      cases anb (fun _ => true) (p k) lv <;> cases J k <;> decide
    have e5 : cnr (fun j => anb (fun _ => true) (p j) lv && !(J j)) (n - lv) lv ≤ cnr (fun k => bt am k && !(J k)) (n - lv) lv := by
      refine cnr_mn _ _ (fun k k1 k2 q => ?_)
      have q : (anb (fun _ => true) (p k) lv && !(J k)) = true := q
      show (bt am k && !(J k)) = true
      rw [Bool.and_eq_true] at q ⊢
      obtain ⟨l, l1, -, l3⟩ := (anb_iff lv).mp q.1
      exact ⟨(h2 k l k1 (by omega) l1 l3).2, q.2⟩
    have e6 : cnr (fun j => anb (fun _ => true) (p j) lv && J j) (n - lv) lv ≤ cnr (fun j => anb (fun l => bt am l && !(J l)) (p j) lv) (n - lv) lv := by
      refine cnr_mn _ _ (fun k k1 k2 q => ?_)
      have q : (anb (fun _ => true) (p k) lv && J k) = true := q
      rw [Bool.and_eq_true] at q
      obtain ⟨l, l1, -, l3⟩ := (anb_iff lv).mp q.1
      refine (anb_iff lv).mpr ⟨l, l1, ?_, l3⟩
      have hed := h2 k l k1 (by omega) l1 l3
      have hcp := cl_pos (n := n) (lv := lv) k1 (by omega) l3
      have h5 := h3 l l1
      have h6 := (h5.2 (by omega)).2
      rw [h6, Bool.true_and]
      cases hJ : J l
      · rfl
      · exact absurd hed.1 (hi l k l1 k1 (by omega) hJ q.2)
    have e7 := dcn (n := n) (lv := lv) (A := fun l => bt am l && !(J l)) (p := p) lv (by omega)
    have e8 : ssm (fun l => if (bt am l && !(J l)) = true then cl n lv p l else 0) lv ≤ cnr (fun l => bt am l && !(J l)) lv 0 := by
      rw [← ssm_c]
      refine ssm_le lv (fun l hl' => ?_)
      by_cases q : (bt am l && !(J l)) = true
      · rw [if_pos q, if_pos q]; exact (h3 l hl').1
      · rw [if_neg q, if_neg q]; exact Nat.le_refl _
    omega
  have hlo : ∃ J, subm n J am ∧ indp to n lv J ∧ cnr J n 0 + m = cnr (bt am) n 0 := by
    obtain ⟨zb1, hzb1⟩ : ∃ q : Nat → Bool, ∀ l, q l = true ↔ zl l := ⟨fun l => @decide (zl l) (Classical.propDecidable _), fun l => @decide_eq_true_iff (zl l) (Classical.propDecidable _)⟩
    obtain ⟨zb2, hzb2⟩ : ∃ q : Nat → Bool, ∀ l, q l = true ↔ zr l := ⟨fun l => @decide (zr l) (Classical.propDecidable _), fun l => @decide_eq_true_iff (zr l) (Classical.propDecidable _)⟩
    have hzr : ∀ j, lv ≤ j → j < n → (zr j ↔ ∃ l, l < lv ∧ zb1 l = true ∧ p j = nI l) := by
      intro j j1 j2
      constructor
      · intro q
        obtain ⟨-, l, y2, y3, y4⟩ := z1.2 j q
        exact ⟨l, y2, (hzb1 l).mpr y3, y4⟩
      · intro ⟨l, y2, y3, y4⟩
        exact z1.1 l j ((hzb1 l).mp y3) j1 j2 (h2 j l j1 j2 y2 y4)
    refine ⟨fun k => if k < lv then zb1 k else (bt am k && !(zb2 k)), fun k hk q => ?_, fun i j i1 j1 j2 q1 q2 q3 => ?_, ?_⟩
    · by_cases hkl : k < lv
      · have q : (if k < lv then zb1 k else _) = true := q
        rw [if_pos hkl] at q
        exact (z3 k ((hzb1 k).mp q)).2
      · have q : (if k < lv then zb1 k else (bt am k && !(zb2 k))) = true := q
        rw [if_neg hkl, Bool.and_eq_true] at q
        exact q.1
    · have q1 : (if i < lv then zb1 i else _) = true := q1
      have q2 : (if j < lv then zb1 j else (bt am j && !(zb2 j))) = true := q2
      rw [if_pos i1] at q1
      rw [if_neg (by omega), Bool.and_eq_true] at q2
      have := (hzb2 j).mpr (z1.1 i j ((hzb1 i).mp q1) j1 j2 ⟨q3, q2.1⟩)
      rw [this] at q2
      exact absurd q2.2 (by decide)
    · rw [cnr_lr (a := fun k => if k < lv then zb1 k else (bt am k && !(zb2 k))) hl, cnr_lr (a := bt am) hl]
      have e1 : cnr (fun k => if k < lv then zb1 k else (bt am k && !(zb2 k))) lv 0 = cnr zb1 lv 0 := cnr_cg _ _ (fun k _ hk => if_pos (by omega))
      have e2 : cnr (fun k => if k < lv then zb1 k else (bt am k && !(zb2 k))) (n - lv) lv = cnr (fun k => bt am k && !(zb2 k)) (n - lv) lv := cnr_cg _ _ (fun k k1 hk => if_neg (by omega))
      have e3 : cnr (bt am) (n - lv) lv = cnr (fun k => bt am k && !(zb2 k)) (n - lv) lv + cnr (fun j => anb zb1 (p j) lv) (n - lv) lv := by
        refine cnr_add _ _ (fun k k1 k2 => ?_)
        rw [anb_iff lv, ← hzr k k1 (by omega), ← hzb2 k, Bool.and_eq_true]
        constructor
        · constructor
          · intro q
            cases hz : zb2 k
            · exact Or.inl ⟨q, rfl⟩
            · exact Or.inr rfl
          · intro q
            rcases q with q | q
            · exact q.1
            · obtain ⟨-, l, y2, y3, y4⟩ := z1.2 k ((hzb2 k).mp q)
              exact (h2 k l k1 (by omega) y2 y4).2
        · intro ⟨q1, q2⟩
          rw [q2] at q1
          exact absurd q1.2 (by decide)
      have e4 := dcn (n := n) (lv := lv) (A := zb1) (p := p) lv (by omega)
      have e5 : cnr zb1 lv 0 + ssm (fun l => cl n lv p l) lv = cnr (bt am) lv 0 + ssm (fun l => if zb1 l = true then cl n lv p l else 0) lv := by
        rw [← ssm_c, ← ssm_c, ← ssm_add, ← ssm_add]
        refine ssm_cg lv (fun l hl' => ?_)
        have h5 := h3 l hl'
        show (if zb1 l = true then 1 else 0) + cl n lv p l = (if bt am l = true then 1 else 0) + (if zb1 l = true then cl n lv p l else 0)
        by_cases hz : zb1 l = true
        · rw [if_pos hz, if_pos hz, if_pos (z3 l ((hzb1 l).mp hz)).2]
        · rw [if_neg hz, if_neg hz]
          by_cases ha : bt am l = true
          · rw [if_pos ha]
            have : ¬ cl n lv p l = 0 := fun q => hz ((hzb1 l).mpr (z2 l hl' hl' ha q))
            omega
          · rw [if_neg ha]
            have : ¬ cl n lv p l = 1 := fun q => ha (h5.2 q).2
            omega
      omega
  obtain ⟨J, j1, j2, j3⟩ := hlo
  refine ⟨by omega, ⟨J, j1, j2, by omega⟩, fun J' a1 a2 => by have := hup J' a1 a2; omega⟩
theorem ga_MIS {s : PS} (hn : n ≤ 14) (hl : lv ≤ n) (ha : ∀ k, n ≤ k → bt am k = false) : ∃ a, bcn am - nI (ga to am n lv s).2 = nI a ∧ a ≤ 14 ∧ MIS to n lv am a := by
  have hG : GI to am n lv lv (ga to am n lv s).1.1 (ga to am n lv s).2 := by
    refine gaL_G hn hl lv 0 ((ifl (fun _ => (-1)) s.1 n, s.2), 0) (by omega) ?_
    have hcl : ∀ l, l < lv → cl n lv (ifl (fun _ => (-1)) s.1 n) l = 0 := by
      intro l hl'
      unfold cl
      refine Classical.byContradiction (fun q => ?_)
      have h5 : cnr (fun j => decide (ifl (fun _ => (-1)) s.1 n j = nI l)) (n - lv) lv ≤ cnr (fun _ => false) (n - lv) lv := cnr_mn _ _ (fun k k1 k2 z => by
        have z := of_decide_eq_true z
        rw [ifl_lt (by omega)] at z
        exact absurd z.symm (nI_ne_m1 (by omega)))
      have h6 : ∀ j i, cnr (fun _ => false) j i = 0 := by
        intro j
        induction j with
        | zero => intro i; rfl
        | succ j ih => intro i; show (if false = true then 1 else 0) + cnr _ j (i + 1) = 0; rw [if_neg (by decide), ih]
      rw [h6] at h5
      omega
    refine ⟨⟨fun j j1 j2 => Or.inl (show ifl (fun _ => (-1)) s.1 n j = (-1) from ifl_lt j2), fun j l j1 j2 l1 q => ?_⟩, fun l hl' => ?_, ?_, fun _ => False, fun _ => False, ⟨fun l j q => absurd q id, fun j q => absurd q id⟩, fun l h => absurd h (Nat.not_lt_zero _), fun l q => absurd q id⟩
    · have q : ifl (fun _ => (-1)) s.1 n j = nI l := q
      rw [ifl_lt j2] at q
      exact absurd q.symm (nI_ne_m1 (by omega))
    · have := hcl l hl'
      exact ⟨by show cl n lv (ifl (fun _ => (-1)) s.1 n) l ≤ 1; omega, fun q => by have q : cl n lv (ifl (fun _ => (-1)) s.1 n) l = 1 := q; omega⟩
    · show 0 = ssm (fun l => cl n lv (ifl (fun _ => (-1)) s.1 n) l) lv
      have : ∀ k, ssm (fun _ => 0) k = 0 := by intro k; induction k with
        | zero => rfl
        | succ k ih => show ssm (fun _ => 0) k + 0 = 0; omega
      rw [ssm_cg (h := fun _ => 0) lv hcl, this]
  have h1 := GI_MIS hn hl hG
  have hb16 : hb am := fun i hi => ha i (by omega)
  have e1 : cnr (bt am) 16 0 = cnr (bt am) n 0 := by
    rw [cnr_lr (n := 16) (lv := n) (by omega)]
    have : cnr (bt am) (16 - n) n = 0 := by
      refine Classical.byContradiction (fun q => ?_)
      have h5 : cnr (bt am) (16 - n) n ≤ cnr (fun _ => false) (16 - n) n := cnr_mn _ _ (fun k k1 k2 z => by rw [ha k k1] at z; exact z)
      have h6 : ∀ j i, cnr (fun _ => false) j i = 0 := by
        intro j
        induction j with
        | zero => intro i; rfl
        | succ j ih => intro i; show (if false = true then 1 else 0) + cnr _ j (i + 1) = 0; rw [if_neg (by decide), ih]
      rw [h6] at h5
      omega
    omega
  have hle := cnr_le (g := bt am) n 0
  refine ⟨cnr (bt am) n 0 - (ga to am n lv s).2, ?_, by omega, h1.2⟩
  rw [bcn_c hb16, e1]
  exact n_sub (by omega) h1.1
end P65
