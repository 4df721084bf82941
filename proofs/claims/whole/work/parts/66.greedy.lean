/-! ===== the chords that the class chooses ===== -/
section P66a
variable {ln st en : Nat → Int32} {n lv : Nat}
def tpd (i j a b : Nat) : Prop := a < i ∨ (a = i ∧ b < j)
def TJ (ln st en : Nat → Int32) (n lv i j : Nat) (T : Nat → Int32) : Prop := ∀ a b, a < n → b < 32 → (bt (T a) b = true ↔ (a < lv ∧ lv ≤ b ∧ b < n ∧ tpd i j a b ∧ tcb ln st en a b = true) ∨ (b < lv ∧ lv ≤ a ∧ tpd i j b a ∧ tcb ln st en b a = true))
theorem tpair_bt {T : Nat → Int32} {i j a b : Nat} (hij : i < j) (hj : j < 32) (hb' : b < 32) : bt (tpair T i j a) b = true ↔ bt (T a) b = true ∨ (a = i ∧ b = j) ∨ (a = j ∧ b = i) := by
  unfold tpair
  have e1 : ∀ x k, k < 32 → bt (x ||| nI 1 <<< (nI k &&& 31)) b = (bt x b || decide (b = k)) := fun x k hk => tr_bt hk hb'
  by_cases h1 : a = j
  · rw [h1, upd_e, upd_n (by omega), e1 _ i (by omega), Bool.or_eq_true, decide_eq_true_iff]
    constructor
    · intro q; rcases q with q | q; exact Or.inl q; exact Or.inr (Or.inr ⟨rfl, q⟩)
    · intro q; rcases q with q | q | q; exact Or.inl q; omega; exact Or.inr q.2
  · rw [upd_n h1]
    by_cases h2 : a = i
    · rw [h2, upd_e, e1 _ j hj, Bool.or_eq_true, decide_eq_true_iff]
      constructor
      · intro q; rcases q with q | q; exact Or.inl q; exact Or.inr (Or.inl ⟨rfl, q⟩)
      · intro q; rcases q with q | q | q; exact Or.inl q; exact Or.inr q.2; omega
    · rw [upd_n h2]
      constructor
      · intro q; exact Or.inl q
      · intro q; rcases q with q | q | q; exact q; omega; omega
theorem tj_T (hn : n ≤ 14) {i : Nat} (hi : i < lv) : ∀ k j T, j + k = n → lv ≤ j → TJ ln st en n lv i j T → TJ ln st en n lv i n (tj ln st en i k j T) := by
  intro k
  induction k with
  | zero =>
    intro j T hj _ h
    have hjn : j = n := by omega
    rw [hjn] at h
    exact h
  | succ k ih =>
    intro j T hj hlj h
    refine ih (j + 1) _ (by omega) (by omega) ?_
    intro a b ha hb'
    by_cases ht : tcb ln st en i j = true
    · rw [if_pos ht, tpair_bt (by omega) (by omega) hb', h a b ha hb']
      unfold tpd
      constructor
      · intro q
        rcases q with (⟨q1, q2, q3, q4, q5⟩ | ⟨q1, q2, q4, q5⟩) | ⟨q1, q2⟩ | ⟨q1, q2⟩
        · exact Or.inl ⟨q1, q2, q3, by omega, q5⟩
        · exact Or.inr ⟨q1, q2, by omega, q5⟩
        · subst q1; subst q2; exact Or.inl ⟨hi, hlj, by omega, by omega, ht⟩
        · subst q1; subst q2; exact Or.inr ⟨hi, hlj, by omega, ht⟩
      · intro q
        rcases q with ⟨q1, q2, q3, q4, q5⟩ | ⟨q1, q2, q4, q5⟩
        · by_cases hq : a = i ∧ b = j
          · exact Or.inr (Or.inl hq)
          · exact Or.inl (Or.inl ⟨q1, q2, q3, by omega, q5⟩)
        · by_cases hq : b = i ∧ a = j
          · exact Or.inr (Or.inr ⟨hq.2, hq.1⟩)
          · exact Or.inl (Or.inr ⟨q1, q2, by omega, q5⟩)
    · rw [if_neg ht, h a b ha hb']
      unfold tpd
      constructor
      · intro q
        rcases q with ⟨q1, q2, q3, q4, q5⟩ | ⟨q1, q2, q4, q5⟩
        · exact Or.inl ⟨q1, q2, q3, by omega, q5⟩
        · exact Or.inr ⟨q1, q2, by omega, q5⟩
      · intro q
        rcases q with ⟨q1, q2, q3, q4, q5⟩ | ⟨q1, q2, q4, q5⟩
        · by_cases hq : a = i ∧ b = j
          · rw [hq.1, hq.2] at q5; exact absurd q5 ht
          · exact Or.inl ⟨q1, q2, q3, by omega, q5⟩
        · by_cases hq : b = i ∧ a = j
          · rw [hq.1, hq.2] at q5; exact absurd q5 ht
          · exact Or.inr ⟨q1, q2, by omega, q5⟩
theorem ti_T (hn : n ≤ 14) (hl : lv ≤ n) : ∀ k i T, i + k = lv → TJ ln st en n lv i lv T → TJ ln st en n lv lv lv (ti ln st en n lv k i T) := by
  intro k
  induction k with
  | zero => intro i T hi h; rw [show lv = i by omega] at h ⊢; exact h
  | succ k ih =>
    intro i T hi h
    have h1 := tj_T hn (i := i) (by omega) (n - lv) lv T (by omega) (Nat.le_refl _) h
    refine ih (i + 1) _ (by omega) ?_
    intro a b ha hb'
    rw [h1 a b ha hb']
    unfold tpd
    constructor
    · intro q
      rcases q with ⟨q1, q2, q3, q4, q5⟩ | ⟨q1, q2, q4, q5⟩
      · exact Or.inl ⟨q1, q2, q3, by omega, q5⟩
      · exact Or.inr ⟨q1, q2, by omega, q5⟩
    · intro q
      rcases q with ⟨q1, q2, q3, q4, q5⟩ | ⟨q1, q2, q4, q5⟩
      · exact Or.inl ⟨q1, q2, q3, by omega, q5⟩
      · exact Or.inr ⟨q1, q2, by omega, q5⟩
/-- who touches whom -/
theorem ti_bt {to : Nat → Int32} (hn : n ≤ 14) (hl : lv ≤ n) {a b : Nat} (ha : a < n) (hb' : b < 32) : bt (ti ln st en n lv lv 0 (ifl (fun _ => nI 0) to n) a) b = true ↔ (a < lv ∧ lv ≤ b ∧ b < n ∧ tcb ln st en a b = true) ∨ (b < lv ∧ lv ≤ a ∧ tcb ln st en b a = true) := by
  have h := ti_T (ln := ln) (st := st) (en := en) hn hl lv 0 (ifl (fun _ => nI 0) to n) (by omega) (by
    intro a b ha hb'
    rw [ifl_lt ha, show bt (nI 0) b = false from b_0 b]
    unfold tpd
    constructor
    · intro q; exact absurd q (by decide)
    · intro q; rcases q with ⟨q1, q2, q3, q4, q5⟩ | ⟨q1, q2, q4, q5⟩ <;> omega)
  rw [h a b ha hb']
  unfold tpd
  constructor
  · intro q
    rcases q with ⟨q1, q2, q3, q4, q5⟩ | ⟨q1, q2, q4, q5⟩
    · exact Or.inl ⟨q1, q2, q3, q5⟩
    · exact Or.inr ⟨q1, q2, q5⟩
  · intro q
    rcases q with ⟨q1, q2, q3, q5⟩ | ⟨q1, q2, q5⟩
    · exact Or.inl ⟨q1, q2, q3, by omega, q5⟩
    · exact Or.inr ⟨q1, q2, by omega, q5⟩
end P66a
section P66
variable {to : Nat → Int32} {n lv : Nat}
def ADJ (to : Nat → Int32) (n lv : Nat) : Prop := (∀ a b, a < n → b < n → bt (to a) b = true → (a < lv ∧ lv ≤ b) ∨ (b < lv ∧ lv ≤ a)) ∧ ∀ a b, a < n → b < n → bt (to a) b = true → bt (to b) a = true
theorem ind_a (h : ADJ to n lv) (hl : lv ≤ n) {J : Nat → Bool} : indp to n lv J ↔ ∀ a b, a < n → b < n → J a = true → J b = true → ¬ bt (to a) b = true := by
  constructor
  · intro q a b ha hb' h1 h2 h3
    rcases h.1 a b ha hb' h3 with ⟨z1, z2⟩ | ⟨z1, z2⟩
    · exact q a b z1 z2 hb' h1 h2 h3
    · exact q b a z1 z2 ha h2 h1 (h.2 a b ha hb' h3)
  · intro q i j i1 j1 j2 h1 h2
    exact q i j (by omega) j2 h1 h2
def LXE (n i : Nat) (C J : Nat → Bool) : Prop := (∀ k, k < i → J k = C k) ∨ ∃ z, z < i ∧ (∀ k, k < z → J k = C k) ∧ C z = true ∧ J z = false
def GRD (to : Nat → Int32) (n lv A0 i : Nat) (left need ch : Int32) : Prop := (∀ k, k < 32 → (bt left k = true ↔ k < n ∧ i ≤ k ∧ ∀ c, c < i → bt ch c = true → ¬ bt (to c) k = true)) ∧ (∃ a, a ≤ 14 ∧ need = nI a ∧ MIS to n lv left a ∧ cnr (bt ch) n 0 + a = A0) ∧ ((∀ k, bt ch k = true → k < i) ∧ indp to n lv (bt ch)) ∧ ∀ J, indp to n lv J → cnr J n 0 = A0 → LXE n i (bt ch) J
theorem cnr_3 {J : Nat → Bool} {i : Nat} (hi : i < n) : cnr J n 0 = cnr J i 0 + (if J i = true then 1 else 0) + cnr J (n - (i + 1)) (i + 1) := by
  have h1 := cnr_app (a := J) i (n - i) 0
  rw [show i + (n - i) = n by omega, Nat.zero_add] at h1
  have h2 := cnr_app (a := J) 1 (n - (i + 1)) i
  rw [show 1 + (n - (i + 1)) = n - i by omega] at h2
  have h3 : cnr J 1 i = (if J i = true then 1 else 0) := rfl
  rw [h1, h2, h3]
  omega
theorem cnr_zero {J : Nat → Bool} : ∀ k i, (∀ z, i ≤ z → z < i + k → J z = false) → cnr J k i = 0 := by
  intro k
  induction k with
  | zero => intro i _; rfl
  | succ k ih =>
    intro i h
    show (if J i = true then 1 else 0) + cnr J k (i + 1) = 0
    rw [h i (by omega) (by omega), if_neg (by decide), ih (i + 1) (fun z h1 h2 => h z (by omega) (by omega))]
theorem bt_nb {x : Int32} {i k : Nat} (hi : i < 32) (hk : k < 32) : bt (x &&& (bi i ^^^ (-1))) k = true ↔ bt x k = true ∧ ¬ k = i := by
  rw [b_and, b_xor, bi_bt hi hk, b_m1 k hk, Bool.and_eq_true]
  by_cases h : k = i
  · rw [decide_eq_true h]; simp [h]
  · rw [decide_eq_false h]; simp [h]
theorem bt_nt {x y : Int32} {k : Nat} (hk : k < 32) : bt (x &&& (y ^^^ (-1))) k = true ↔ bt x k = true ∧ ¬ bt y k = true := by
  rw [b_and, b_xor, b_m1 k hk, Bool.and_eq_true]
  cases bt y k <;> simp
theorem GRD_s (hA : ADJ to n lv) (hn : n ≤ 14) (hl : lv ≤ n) {A0 i : Nat} {s : ZS} (hi : i < n) (h : GRD to n lv A0 i s.1 s.2.1 s.2.2.1) : ∀ s' : ZS, s' = (if bt s.1 i = true then
      (if bcn ((s.1 &&& (bi i ^^^ (-1))) &&& (to i ^^^ (-1))) - nI (ga to ((s.1 &&& (bi i ^^^ (-1))) &&& (to i ^^^ (-1))) n lv s.2.2.2).2 + nI 1 = s.2.1 then ((s.1 &&& (bi i ^^^ (-1))) &&& (to i ^^^ (-1)), s.2.1 + Int32.ofInt (-1), s.2.2.1 ||| bi i, (ga to ((s.1 &&& (bi i ^^^ (-1))) &&& (to i ^^^ (-1))) n lv s.2.2.2).1)
       else (s.1 &&& (bi i ^^^ (-1)), s.2.1, s.2.2.1, (ga to ((s.1 &&& (bi i ^^^ (-1))) &&& (to i ^^^ (-1))) n lv s.2.2.2).1))
    else (s.1 &&& (bi i ^^^ (-1)), s.2.1, s.2.2.1, s.2.2.2)) → GRD to n lv A0 (i + 1) s'.1 s'.2.1 s'.2.2.1 := by
  intro s' hs'
  obtain ⟨left, need, ch, ps⟩ := s
  obtain ⟨g1, ⟨a, ga1, ga2, ga3, ga4⟩, ⟨g3, g3'⟩, g4⟩ := h
  dsimp only at g1 ga2 ga3 ga4 g3 g3' g4 hs'
  have hchi : bt ch i = false := Bool.eq_false_iff.mpr (fun q => by have := g3 i q; omega)
  have hno : ∀ (need' : Int32) (ps' : PS), (¬ bt left i = true ∨ ∃ b, MIS to n lv ((left &&& (bi i ^^^ (-1))) &&& (to i ^^^ (-1))) b ∧ ¬ b + 1 = a) → GRD to n lv A0 (i + 1) (left &&& (bi i ^^^ (-1))) need ch := by
    intro need' ps' hcs
    have hrest : ∀ b, MIS to n lv ((left &&& (bi i ^^^ (-1))) &&& (to i ^^^ (-1))) b → ∀ J, indp to n lv J → subm n J left → J i = true → cnr J n 0 ≤ b + 1 := by
      intro b hM J j1 j2 j3
      have h5 := hM.2 (fun k => J k && !(decide (k = i))) (fun k hk q => ?_) (fun x y x1 y1 y2 q1 q2 => ?_)
      · have h6 := cnr_dec (a := J) (c := fun k => J k && !(decide (k = i))) (z := i) j3 (fun k => rfl) n 0 (by omega) (by omega)
        omega
      · rw [Bool.and_eq_true] at q
        have hki : ¬ k = i := fun z => by rw [decide_eq_true z] at q; exact absurd q.2 (by decide)
        rw [bt_nt (by omega), bt_nb (by omega) (by omega)]
        exact ⟨⟨j2 k hk q.1, hki⟩, (ind_a hA hl).mp j1 i k hi hk j3 q.1⟩
      · rw [Bool.and_eq_true] at q1 q2
        exact j1 x y x1 y1 y2 q1.1 q2.1
    have hge : ∀ b, MIS to n lv ((left &&& (bi i ^^^ (-1))) &&& (to i ^^^ (-1))) b → bt left i = true → b + 1 ≤ a := by
      intro b hM hli
      obtain ⟨J, j1, j2, j3⟩ := hM.1
      have hJi : J i = false := Bool.eq_false_iff.mpr (fun q => by
        have := j1 i hi q
        rw [bt_nt (by omega), bt_nb (by omega) (by omega)] at this
        exact this.1.2 rfl)
      have h5 := ga3.2 (upb J i true) (fun k hk q => ?_) ((ind_a hA hl).mpr (fun x y x1 y1 q1 q2 q3 => ?_))
      · have := cnr_up hJi n 0 (by omega) (by omega)
        omega
      · by_cases hz : k = i
        · rw [hz]; exact hli
        · rw [upb_n hz] at q
          have := j1 k hk q
          rw [bt_nt (by omega), bt_nb (by omega) (by omega)] at this
          exact this.1.1
      · have hadj : ∀ k, k < n → J k = true → ¬ bt (to i) k = true := fun k hk q => by
          have := j1 k hk q
          rw [bt_nt (by omega), bt_nb (by omega) (by omega)] at this
          exact this.2
        by_cases hx : x = i
        · by_cases hy : y = i
          · rw [hx, hy] at q3
            rcases hA.1 i i hi hi q3 with z | z <;> omega
          · rw [hx] at q3
            rw [upb_n hy] at q2
            exact hadj y y1 q2 q3
        · rw [upb_n hx] at q1
          by_cases hy : y = i
          · rw [hy] at q3
            exact hadj x x1 q1 (hA.2 x i x1 hi q3)
          · rw [upb_n hy] at q2
            exact (ind_a hA hl).mp j2 x y x1 y1 q1 q2 q3
    refine ⟨fun k hk => ?_, ⟨a, ga1, ga2, ⟨?_, fun J j1 j2 => ?_⟩, ga4⟩, ⟨fun k q => by have := g3 k q; omega, g3'⟩, fun J j1 j2 => ?_⟩
    · rw [bt_nb (by omega) hk, g1 k hk]
      constructor
      · intro ⟨⟨z1, z2, z3⟩, z4⟩
        refine ⟨z1, by omega, fun c hc q => ?_⟩
        by_cases hci : c = i
        · rw [hci, hchi] at q; exact absurd q (by decide)
        · exact z3 c (by omega) q
      · intro ⟨z1, z2, z3⟩
        exact ⟨⟨z1, by omega, fun c hc q => z3 c (by omega) q⟩, by omega⟩
    · obtain ⟨J, j1, j2, j3⟩ := ga3.1
      refine ⟨J, fun k hk q => ?_, j2, j3⟩
      rw [bt_nb (by omega) (by omega)]
      refine ⟨j1 k hk q, fun z => ?_⟩
      rw [z] at q
      rcases hcs with hcs | ⟨b, hM, hb'⟩
      · exact hcs (j1 i hi q)
      · have h5 := hrest b hM J j2 j1 q
        have h6 := hge b hM (j1 i hi q)
        omega
    · refine ga3.2 J (fun k hk q => ?_) j2
      have := j1 k hk q
      rw [bt_nb (by omega) (by omega)] at this
      exact this.1
    · rcases g4 J j1 j2 with hq | ⟨z, z1, z2, z3, z4⟩
      · left
        intro k hk
        by_cases hki : k = i
        · rw [hki, hchi]
          refine Bool.eq_false_iff.mpr (fun q => ?_)
          -- J takes i
          have hJl : ∀ k, k < n → i ≤ k → J k = true → bt left k = true := fun k k1 k2 q2 => (g1 k (by omega)).mpr ⟨k1, k2, fun c hc q3 => (ind_a hA hl).mp j1 c k (by omega) k1 (by rw [hq c hc]; exact q3) q2⟩
          rcases hcs with hcs | ⟨b, hM, hb'⟩
          · exact hcs (hJl i hi (Nat.le_refl _) q)
          · have h6 := hge b hM (hJl i hi (Nat.le_refl _) q)
            have h7 := hrest b hM (fun k => J k && decide (i ≤ k)) (fun x y x1 y1 y2 q1 q2 => by
              rw [Bool.and_eq_true] at q1 q2
              exact j1 x y x1 y1 y2 q1.1 q2.1) (fun k hk q2 => by
              rw [Bool.and_eq_true, decide_eq_true_iff] at q2
              exact hJl k hk q2.2 q2.1) (by show (J i && decide (i ≤ i)) = true; rw [q, decide_eq_true (Nat.le_refl _)]; rfl)
            have h8 := cnr_lr (a := J) (n := n) (lv := i) (by omega)
            have h9 := cnr_lr (a := fun k => J k && decide (i ≤ k)) (n := n) (lv := i) (by omega)
            have h10 : cnr (fun k => J k && decide (i ≤ k)) i 0 = 0 := cnr_zero i 0 (fun z _ hz => by rw [decide_eq_false (by omega), Bool.and_false])
            have h11 : cnr (fun k => J k && decide (i ≤ k)) (n - i) i = cnr J (n - i) i := cnr_cg _ _ (fun k k1 k2 => by rw [decide_eq_true k1, Bool.and_true])
            have h12 := cnr_lr (a := bt ch) (n := n) (lv := i) (by omega)
            have h13 : cnr (bt ch) (n - i) i = 0 := cnr_zero _ _ (fun z z1 z2 => Bool.eq_false_iff.mpr (fun w => by have := g3 z w; omega))
            have h14 : cnr J i 0 = cnr (bt ch) i 0 := cnr_cg i 0 (fun k _ hk => hq k (by omega))
            omega
        · exact hq k (by omega)
      · exact Or.inr ⟨z, by omega, z2, z3, z4⟩
  by_cases hli : bt left i = true
  · rw [if_pos hli] at hs'
    have hrb : ∀ k, n ≤ k → bt ((left &&& (bi i ^^^ (-1))) &&& (to i ^^^ (-1))) k = false := by
      intro k hk
      by_cases hk32 : k < 32
      · refine Bool.eq_false_iff.mpr (fun q => ?_)
        rw [bt_nt hk32, bt_nb (by omega) hk32, g1 k hk32] at q
        have := q.1.1.1
        omega
      · exact b_big (by omega)
    obtain ⟨b, hb1, hb2, hM⟩ := ga_MIS (to := to) (am := (left &&& (bi i ^^^ (-1))) &&& (to i ^^^ (-1))) (s := ps) hn hl hrb
    rw [hb1] at hs'
    by_cases hba : nI b + nI 1 = need
    · rw [if_pos hba] at hs'
      rw [hs']
      have hab : b + 1 = a := by
        rw [ga2, nI_add] at hba
        exact nI_inj (by omega) (by omega) hba
      refine ⟨fun k hk => ?_, ⟨b, by omega, ?_, hM, ?_⟩, ⟨fun k q => ?_, ?_⟩, fun J j1 j2 => ?_⟩
      · show bt ((left &&& (bi i ^^^ (-1))) &&& (to i ^^^ (-1))) k = true ↔ _
        rw [bt_nt hk, bt_nb (by omega) hk, g1 k hk]
        constructor
        · intro ⟨⟨⟨z1, z2, z3⟩, z4⟩, z5⟩
          refine ⟨z1, by omega, fun c hc q => ?_⟩
          rw [b_or, Bool.or_eq_true, bi_bt (by omega) (by omega), decide_eq_true_iff] at q
          rcases q with q | q
          · exact z3 c (g3 c q) q
          · rw [q]; exact z5
        · intro ⟨z1, z2, z3⟩
          refine ⟨⟨⟨z1, by omega, fun c hc q => z3 c (by omega) (by rw [b_or, q]; rfl)⟩, by omega⟩, z3 i (by omega) ?_⟩
          rw [b_or, bi_bt (by omega) (by omega), decide_eq_true rfl, Bool.or_true]
      · show need + Int32.ofInt (-1) = nI b
        rw [ga2, ← hab]
        exact nI_m1 b (by omega)
      · show cnr (bt (ch ||| bi i)) n 0 + b = A0
        have h5 : cnr (bt (ch ||| bi i)) n 0 = cnr (upb (bt ch) i true) n 0 := cnr_cg n 0 (fun k _ hk => by
          rw [b_or, bi_bt (by omega) (by omega)]
          by_cases hz : k = i
          · rw [hz, upb_e, decide_eq_true rfl, Bool.or_true]
          · rw [upb_n hz, decide_eq_false hz, Bool.or_false])
        rw [h5, cnr_up hchi n 0 (by omega) (by omega)]
        omega
      · have q : bt (ch ||| bi i) k = true := q
        by_cases hk : k < 32
        · rw [b_or, Bool.or_eq_true, bi_bt (by omega) hk, decide_eq_true_iff] at q
          rcases q with q | q
          · have := g3 k q; omega
          · omega
        · rw [b_big (by omega)] at q; exact absurd q (by decide)
      · show indp to n lv (bt (ch ||| bi i))
        rw [ind_a hA hl]
        intro x y hx hy q1 q2 q3
        rw [b_or, Bool.or_eq_true, bi_bt (by omega) (by omega), decide_eq_true_iff] at q1 q2
        have hc2 := ((g1 i (by omega)).mp hli).2.2
        rcases q1 with q1 | q1
        · rcases q2 with q2 | q2
          · exact (ind_a hA hl).mp g3' x y hx hy q1 q2 q3
          · rw [q2] at q3; exact hc2 x (g3 x q1) q1 q3
        · rw [q1] at q3
          rcases q2 with q2 | q2
          · exact hc2 y (g3 y q2) q2 (hA.2 i y hi hy q3)
          · rw [q2] at q3; rcases hA.1 i i hi hi q3 with z | z <;> omega
      · have hcc : ∀ k, k < n → bt (ch ||| bi i) k = if k = i then true else bt ch k := fun k hk => by
          rw [b_or, bi_bt (by omega) (by omega)]
          by_cases hz : k = i
          · rw [if_pos hz, decide_eq_true hz, Bool.or_true]
          · rw [if_neg hz, decide_eq_false hz, Bool.or_false]
        rcases g4 J j1 j2 with hq | ⟨z, z1, z2, z3, z4⟩
        · cases hJ : J i
          · refine Or.inr ⟨i, by omega, fun k hk => ?_, ?_, hJ⟩
            · show J k = bt (ch ||| bi i) k
              rw [hcc k (by omega), if_neg (by omega)]; exact hq k hk
            · show bt (ch ||| bi i) i = true
              rw [hcc i hi, if_pos rfl]
          · left
            intro k hk
            show J k = bt (ch ||| bi i) k
            rw [hcc k (by omega)]
            by_cases hz : k = i
            · rw [if_pos hz, hz]; exact hJ
            · rw [if_neg hz]; exact hq k (by omega)
        · refine Or.inr ⟨z, by omega, fun k hk => ?_, ?_, z4⟩
          · show J k = bt (ch ||| bi i) k
            rw [hcc k (by omega), if_neg (by omega)]; exact z2 k hk
          · show bt (ch ||| bi i) z = true
            rw [hcc z (by omega), if_neg (by omega)]; exact z3
    · rw [if_neg hba] at hs'
      rw [hs']
      exact hno need ps (Or.inr ⟨b, hM, fun q => hba (by rw [ga2, nI_add, q])⟩)
  · rw [if_neg hli] at hs'
    rw [hs']
    exact hno need ps (Or.inl hli)
theorem chl_G (hA : ADJ to n lv) (hn : n ≤ 14) (hl : lv ≤ n) {A0 : Nat} : ∀ k i (s : ZS), i + k = n → GRD to n lv A0 i s.1 s.2.1 s.2.2.1 → GRD to n lv A0 n (chl to n lv k i s).1 (chl to n lv k i s).2.1 (chl to n lv k i s).2.2.1 := by
  intro k
  induction k with
  | zero => intro i s hi h; have : i = n := by omega
            rw [this] at h; exact h
  | succ k ih =>
    intro i s hi h
    exact ih (i + 1) _ (by omega) (GRD_s hA hn hl (by omega) h _ rfl)
theorem all_bt : ∀ n, n < 15 → ∀ k, k < 32 → bt (bi n - nI 1) k = decide (k < n) := by decide +kernel
/-- the greatest, and first in order, of those that stand apart -/
def LXM (to : Nat → Int32) (n lv : Nat) (C : Nat → Bool) : Prop := indp to n lv C ∧ ∀ J, indp to n lv J → cnr J n 0 ≤ cnr C n 0 ∧ (cnr J n 0 = cnr C n 0 → LXE n n C J)
theorem chall_L (hA : ADJ to n lv) (hn : n ≤ 14) (hl : lv ≤ n) {ps : PS} : LXM to n lv (bt (chall to n lv ps).2.2.1) := by
  have hall : ∀ k, n ≤ k → bt (bi n - nI 1) k = false := by
    intro k hk
    by_cases h : k < 32
    · rw [all_bt n (by omega) k h, decide_eq_false (by omega)]
    · exact b_big (by omega)
  obtain ⟨a, a1, a2, a3⟩ := ga_MIS (to := to) (am := bi n - nI 1) (s := ps) hn hl hall
  have hG := chl_G (A0 := a) hA hn hl n 0 (bi n - nI 1, bcn (bi n - nI 1) - nI (ga to (bi n - nI 1) n lv ps).2, nI 0, (ga to (bi n - nI 1) n lv ps).1) (by omega) (by
    have h00 : ∀ k, bt (nI 0) k = false := fun k => b_0 k
    refine ⟨fun k hk => ?_, ⟨a, a2, a1, a3, ?_⟩, ⟨fun k q => ?_, fun i j _ _ _ q => ?_⟩, fun J _ _ => Or.inl (fun k hk => absurd hk (Nat.not_lt_zero _))⟩
    · show bt (bi n - nI 1) k = true ↔ _
      rw [all_bt n (by omega) k hk, decide_eq_true_iff]
      exact ⟨fun q => ⟨q, Nat.zero_le _, fun c hc => absurd hc (Nat.not_lt_zero _)⟩, fun q => q.1⟩
    · show cnr (bt (nI 0)) n 0 + a = a
      rw [cnr_zero n 0 (fun z _ _ => h00 z), Nat.zero_add]
    · have q : bt (nI 0) k = true := q
      rw [h00] at q; exact absurd q (by decide)
    · have q : bt (nI 0) i = true := q
      rw [h00] at q; exact absurd q (by decide))
  obtain ⟨g1, ⟨b, b1, b2, b3, b4⟩, ⟨g3, g3'⟩, g4⟩ := hG
  have hb0 : b = 0 := by
    obtain ⟨J, j1, -, j3⟩ := b3.1
    rw [← j3]
    refine cnr_zero n 0 (fun z _ hz => Bool.eq_false_iff.mpr (fun q => ?_))
    have := ((g1 z (by omega)).mp (j1 z (by omega) q)).2.1
    omega
  have hca : cnr (bt (chall to n lv ps).2.2.1) n 0 = a := by
    have b4 : cnr (bt (chall to n lv ps).2.2.1) n 0 + b = a := b4
    omega
  refine ⟨g3', fun J j1 => ⟨?_, fun q => ?_⟩⟩
  · rw [hca]
    exact a3.2 J (fun k hk _ => by rw [all_bt n (by omega) k (by omega)]; exact decide_eq_true hk) j1
  · exact g4 J j1 (q.trans hca)
end P66
