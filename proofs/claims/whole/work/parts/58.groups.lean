/-! ===== the groups that the class counts ===== -/
def mnP (g : Nat → Bool) (b : Bool) (i : Nat) : Prop := g i = true ∧ ∀ j, j < i → g j = true → ¬ Rch g b j i
def CNT (Q : Nat → Prop) (k n : Nat) : Prop := ∃ q : Nat → Bool, (∀ i, i < k → (q i = true ↔ Q i)) ∧ n = cnr q k 0
theorem cnr_cg {a c : Nat → Bool} : ∀ j i, (∀ k, i ≤ k → k < i + j → a k = c k) → cnr a j i = cnr c j i := by
  intro j
  induction j with
  | zero => intro i _; rfl
  | succ j ih =>
    intro i h
    show (if a i = true then 1 else 0) + cnr a j (i + 1) = (if c i = true then 1 else 0) + cnr c j (i + 1)
    rw [h i (by omega) (by omega), ih (i + 1) (fun k h1 h2 => h k (by omega) (by omega))]
theorem cnr_sn {a : Nat → Bool} : ∀ j i, cnr a (j + 1) i = cnr a j i + (if a (i + j) = true then 1 else 0) := by
  intro j
  induction j with
  | zero => intro i; show (if a i = true then 1 else 0) + 0 = 0 + (if a (i + 0) = true then 1 else 0); rw [Nat.add_zero, Nat.add_zero, Nat.zero_add]
  | succ j ih =>
    intro i
    show (if a i = true then 1 else 0) + cnr a (j + 1) (i + 1) = ((if a i = true then 1 else 0) + cnr a j (i + 1)) + _
    rw [ih (i + 1), show i + 1 + j = i + (j + 1) by omega]
    omega
theorem CNT_0 {Q : Nat → Prop} : CNT Q 0 0 := ⟨fun _ => false, fun i hi => absurd hi (Nat.not_lt_zero _), rfl⟩
def upb (q : Nat → Bool) (k : Nat) (v : Bool) : Nat → Bool := fun i => if i = k then v else q i
theorem upb_e {q : Nat → Bool} {k : Nat} {v : Bool} : upb q k v k = v := if_pos rfl
theorem upb_n {q : Nat → Bool} {k i : Nat} {v : Bool} (h : i ≠ k) : upb q k v i = q i := if_neg h
theorem CNT_y {Q : Nat → Prop} {k n : Nat} (h : CNT Q k n) (hQ : Q k) : CNT Q (k + 1) (n + 1) := by
  obtain ⟨q, h1, h2⟩ := h
  refine ⟨upb q k true, fun i hi => ?_, ?_⟩
  · by_cases hz : i = k
    · rw [hz, upb_e]; exact ⟨fun _ => hQ, fun _ => rfl⟩
    · rw [upb_n hz]; exact h1 i (by omega)
  · rw [cnr_sn, Nat.zero_add, upb_e, if_pos rfl, h2, cnr_cg (a := upb q k true) (c := q) k 0 (fun i _ hi => upb_n (by omega))]
theorem CNT_n {Q : Nat → Prop} {k n : Nat} (h : CNT Q k n) (hQ : ¬ Q k) : CNT Q (k + 1) n := by
  obtain ⟨q, h1, h2⟩ := h
  refine ⟨upb q k false, fun i hi => ?_, ?_⟩
  · by_cases hz : i = k
    · rw [hz, upb_e]; exact ⟨fun z => absurd z (by decide), fun z => absurd z hQ⟩
    · rw [upb_n hz]; exact h1 i (by omega)
  · rw [cnr_sn, Nat.zero_add, upb_e, if_neg (by decide), h2, cnr_cg (a := upb q k false) (c := q) k 0 (fun i _ hi => upb_n (by omega))]
    rfl
theorem CNT_uq {Q : Nat → Prop} {k n m : Nat} (h : CNT Q k n) (g : CNT Q k m) : n = m := by
  obtain ⟨q, h1, h2⟩ := h
  obtain ⟨q', g1, g2⟩ := g
  rw [h2, g2]
  exact cnr_cg k 0 (fun i _ hi => Bool.eq_iff_iff.mpr ((h1 i (by omega)).trans (g1 i (by omega)).symm))
theorem CNT_cg {Q Q' : Nat → Prop} {k n : Nat} (h : CNT Q k n) (hc : ∀ i, i < k → (Q i ↔ Q' i)) : CNT Q' k n := by
  obtain ⟨q, h1, h2⟩ := h
  exact ⟨q, fun i hi => (h1 i hi).trans (hc i hi), h2⟩
theorem CNT_sk {Q : Nat → Prop} {n : Nat} : ∀ d p, CNT Q p n → (∀ j, p ≤ j → j < p + d → ¬ Q j) → CNT Q (p + d) n := by
  intro d
  induction d with
  | zero => intro p h _; exact h
  | succ d ih =>
    intro p h hn
    have := ih (p + 1) (CNT_n h (hn p (by omega) (by omega))) (fun j h1 h2 => hn j (by omega) (by omega))
    rw [show p + 1 + d = p + (d + 1) by omega] at this
    exact this
theorem CNT_le {Q : Nat → Prop} {k n : Nat} (h : CNT Q k n) : n ≤ k := by
  obtain ⟨q, -, h2⟩ := h
  rw [h2]
  exact cnr_le k 0
theorem Rch_cg {g g' : Nat → Bool} {b : Bool} {a c : Nat} (h : ∀ v, v < 256 → g v = g' v) : Rch g b a c ↔ Rch g' b a c := ⟨Rch_mono (fun v hv q => by rw [← h v hv]; exact q), Rch_mono (fun v hv q => by rw [h v hv]; exact q)⟩
theorem mnP_cg {g g' : Nat → Bool} {b : Bool} {i : Nat} (hi : i < 256) (h : ∀ v, v < 256 → g v = g' v) : mnP g b i ↔ mnP g' b i := by
  unfold mnP
  rw [h i hi]
  constructor
  · intro q; exact ⟨q.1, fun j hj hg hR => q.2 j hj (by rw [h j (by omega)]; exact hg) ((Rch_cg h).mpr hR)⟩
  · intro q; exact ⟨q.1, fun j hj hg hR => q.2 j hj (by rw [← h j (by omega)]; exact hg) ((Rch_cg h).mp hR)⟩
/-- some cell before p reaches c -/
def ERl (g : Nat → Bool) (b : Bool) (p c : Nat) : Prop := ∃ j, j < p ∧ j < 256 ∧ g j = true ∧ Rch g b j c
abbrev CS3 : Type := (Nat → Int32) × (Nat → Int32) × Nat
def CIV (g : Nat → Bool) (b : Bool) (p : Nat) (s : CS3) : Prop := (∀ y, y < 16 → hb (s.1 y)) ∧ (∀ c, c < 256 → (bx s.1 c = true ↔ g c = true ∧ ¬ ERl g b p c)) ∧ CNT (mnP g b) p s.2.2
theorem ERl_t {g : Nat → Bool} {b : Bool} {p c z : Nat} (h : ERl g b p c) (hR : Rch g b c z) : ERl g b p z := by
  obtain ⟨j, h1, h2, h3, h4⟩ := h
  exact ⟨j, h1, h2, h3, Rch_t h4 hR⟩
theorem CIV_gap {g : Nat → Bool} {b : Bool} {p q : Nat} {s : CS3} (h : CIV g b p s) (hpq : p ≤ q) (hq : q ≤ 256) (hno : ∀ j, p ≤ j → j < q → bx s.1 j = false) : (∀ j, p ≤ j → j < q → g j = true → ERl g b p j) ∧ (∀ c, ERl g b q c ↔ ERl g b p c) ∧ CNT (mnP g b) q s.2.2 := by
  have h1 : ∀ j, p ≤ j → j < q → g j = true → ERl g b p j := by
    intro j j1 j2 j3
    refine Classical.byContradiction (fun hz => ?_)
    have := (h.2.1 j (by omega)).mpr ⟨j3, hz⟩
    rw [hno j j1 j2] at this
    exact absurd this (by decide)
  refine ⟨h1, fun c => ⟨fun ⟨j, a1, a2, a3, a4⟩ => ?_, fun ⟨j, a1, a2, a3, a4⟩ => ⟨j, by omega, a2, a3, a4⟩⟩, ?_⟩
  · by_cases hj : j < p
    · exact ⟨j, hj, a2, a3, a4⟩
    · exact ERl_t (h1 j (by omega) a1 a3) a4
  · have h2 := CNT_sk (q - p) p h.2.2 (fun j j1 j2 hm => by
      obtain ⟨j', a1, a2, a3, a4⟩ := h1 j j1 (by omega) hm.1
      exact hm.2 j' (by omega) a3 a4)
    rw [show p + (q - p) = q by omega] at h2
    exact h2
theorem low_bt {v : Int32} (h : hb v) (h0 : ¬ v = 0) : ∃ x, x < 16 ∧ bt v x = true ∧ (∀ x', x' < x → bt v x' = false) ∧ ∀ i, i < 16 → (bt ((v &&& -v) &&& 65535) i = true ↔ i = x) := by
  have hex : ∃ x, bt v x = true := by
    refine Classical.byContradiction (fun q => h0 ?_)
    apply b_ext
    intro i hi
    rw [b_0]
    exact Bool.eq_false_iff.mpr (fun z => q ⟨i, z⟩)
  have hmin : ∀ n, (∃ x, x < n ∧ bt v x = true) → ∃ x, x < n ∧ bt v x = true ∧ ∀ x', x' < x → bt v x' = false := by
    intro n
    induction n with
    | zero => intro ⟨x, hx, _⟩; omega
    | succ n ih =>
      intro ⟨x, hx, hb'⟩
      by_cases hz : ∃ x, x < n ∧ bt v x = true
      · obtain ⟨x, a1, a2, a3⟩ := ih hz
        exact ⟨x, by omega, a2, a3⟩
      · have : x = n := by
          refine Classical.byContradiction (fun q => hz ⟨x, by omega, hb'⟩)
        subst this
        exact ⟨x, by omega, hb', fun x' hx' => Bool.eq_false_iff.mpr (fun z => hz ⟨x', hx', z⟩)⟩
  obtain ⟨x0, hx0⟩ := hex
  have hx16 : x0 < 16 := by
    refine Classical.byContradiction (fun q => ?_)
    rw [h x0 (by omega)] at hx0
    exact absurd hx0 (by decide)
  obtain ⟨x, a1, a2, a3⟩ := hmin 16 ⟨x0, hx16, hx0⟩
  refine ⟨x, a1, a2, a3, fun i hi => ?_⟩
  have hn : bt (-v) i = (bt v i ^^ decide (i < 32) && decide (∃ j, j < i ∧ bt v j = true)) := by
    unfold bt
    rw [Int32.toBitVec_neg, BitVec.getLsbD_neg]
  rw [b_and, b_and, b_65535, decide_eq_true hi, Bool.and_true, hn, decide_eq_true (by omega), Bool.true_and, Bool.and_eq_true]
  constructor
  · intro ⟨q1, q2⟩
    rw [q1] at q2
    have q3 : ¬ ∃ j, j < i ∧ bt v j = true := fun z => by rw [decide_eq_true z] at q2; exact absurd q2 (by decide)
    by_cases hlt : i < x
    · rw [a3 i hlt] at q1; exact absurd q1 (by decide)
    · by_cases hgt : x < i
      · exact absurd ⟨x, hgt, a2⟩ q3
      · omega
  · intro q
    subst q
    refine ⟨a2, ?_⟩
    rw [a2, decide_eq_false (fun ⟨j, z1, z2⟩ => by rw [a3 j z1] at z2; exact absurd z2 (by decide))]
    rfl
theorem bx_out {l R : Nat → Int32} {c : Nat} (hc : c < 256) : bx (gout l R) c = (bx l c && !(bx R c)) := by
  unfold bx gout
  rw [ifl_lt (by omega), b_and, b_xor, b_m1 _ (by omega)]
  cases bt (R (c / 16)) (c % 16) <;> rfl
theorem CIV_st {g : Nat → Bool} {b : Bool} {p y : Nat} {s : CS3} (h : CIV g b p s) (hy : y < 16) (hp : 16 * y ≤ p) (h0 : ¬ s.1 y = 0) : ∃ q, p ≤ q ∧ q < 16 * y + 16 ∧ CIV g b (q + 1) (gout s.1 (fld s.1 b 256 (gseed s.1 s.2.1 y) (nI 1)), fld s.1 b 256 (gseed s.1 s.2.1 y) (nI 1), s.2.2 + 1) := by
  obtain ⟨x, a1, a2, a3, a4⟩ := low_bt (h.1 y hy) h0
  have hsd : ∀ i, i < 256 → (bx (gseed s.1 s.2.1 y) i = true ↔ i = 16 * y + x) := by
    intro i hi
    unfold gseed
    rw [bx_upd hi]
    by_cases hz : i / 16 = y
    · rw [if_pos hz, a4 _ (by omega)]; omega
    · rw [if_neg hz]
      unfold bx
      rw [ifl_lt (by omega), show bt (nI 0) (i % 16) = false from b_0 _]
      constructor
      · intro q; exact absurd q (by decide)
      · intro q; omega
  have hlq : bx s.1 (16 * y + x) = true := by rw [bxy a1]; exact a2
  have hSB : SB s.1 (gseed s.1 s.2.1 y) := by
    refine ⟨fun z hz => ?_, fun i hi q => ?_⟩
    · unfold gseed
      by_cases hzy : z = y
      · rw [hzy, upd_e]; intro i hi; rw [b_and, b_65535, decide_eq_false (by omega), Bool.and_false]
      · rw [upd_n hzy, ifl_lt hz]; exact hb_0
    · rw [(hsd i hi).mp q]; exact hlq
  have hF := fld_spec (b := b) h.1 hSB
  have hq := (h.2.1 (16 * y + x) (by omega)).mp hlq
  have hpq : p ≤ 16 * y + x := by
    refine Classical.byContradiction (fun q => hq.2 ⟨16 * y + x, by omega, by omega, hq.1, Rch_0⟩)
  have hno : ∀ j, p ≤ j → j < 16 * y + x → bx s.1 j = false := by
    intro j j1 j2
    have := a3 (j - 16 * y) (by omega)
    rw [← bxy (r := s.1) (y := y) (by omega), show 16 * y + (j - 16 * y) = j by omega] at this
    exact this
  obtain ⟨g1, g2, g3⟩ := CIV_gap h hpq (by omega) hno
  have hRR : ∀ c, Rch (bx s.1) b (16 * y + x) c ↔ Rch g b (16 * y + x) c := by
    intro c
    constructor
    · exact Rch_mono (fun v hv q => ((h.2.1 v hv).mp q).1)
    · intro hR
      refine (hR (fun z => Rch g b (16 * y + x) z ∧ Rch (bx s.1) b (16 * y + x) z) ⟨Rch_0, Rch_0⟩ (fun u v hu hu2 hv hgv hn => ?_)).2
      have hgv2 := Rch_s hu.1 hu2 hv hgv hn
      have hbv : bx s.1 v = true := (h.2.1 v hv).mpr ⟨hgv, fun hz => hq.2 (ERl_t hz (Rch_sy (by omega) hq.1 hgv2))⟩
      exact ⟨hgv2, Rch_s hu.2 hu2 hv hbv hn⟩
  have hfb : ∀ c, c < 256 → (bx (fld s.1 b 256 (gseed s.1 s.2.1 y) (nI 1)) c = true ↔ Rch g b (16 * y + x) c) := by
    intro c hc
    rw [hF.2 c hc, ← hRR c]
    constructor
    · intro ⟨a, z1, z2, z3⟩; rw [(hsd a z1).mp z2] at z3; exact z3
    · intro z; exact ⟨16 * y + x, by omega, (hsd _ (by omega)).mpr rfl, z⟩
  refine ⟨16 * y + x, hpq, by omega, ?_, fun c hc => ?_, CNT_y g3 ⟨hq.1, fun j j1 j2 j3 => ?_⟩⟩
  · intro z hz
    show hb (gout s.1 _ z)
    unfold gout
    rw [ifl_lt hz]
    exact hb_andl (h.1 z hz)
  · show bx (gout s.1 (fld s.1 b 256 (gseed s.1 s.2.1 y) (nI 1))) c = true ↔ _
    rw [bx_out hc, Bool.and_eq_true, h.2.1 c hc, Bool.not_eq_true', ← Bool.not_eq_true, hfb c hc]
    constructor
    · intro ⟨⟨z1, z2⟩, z3⟩
      refine ⟨z1, fun ⟨j, b1, b2, b3, b4⟩ => ?_⟩
      by_cases hj : j = 16 * y + x
      · rw [hj] at b4; exact z3 b4
      · exact z2 ((g2 c).mp ⟨j, by omega, b2, b3, b4⟩)
    · intro ⟨z1, z2⟩
      refine ⟨⟨z1, fun ⟨j, b1, b2, b3, b4⟩ => z2 ⟨j, by omega, b2, b3, b4⟩⟩, fun z => z2 ⟨16 * y + x, by omega, by omega, hq.1, z⟩⟩
  · exact hq.2 ((g2 _).mp ⟨j, j1, by omega, j2, j3⟩)
theorem cgi_C {g : Nat → Bool} {b : Bool} {y : Nat} (hy : y < 16) : ∀ k p (s : CS3), CIV g b p s → 16 * y ≤ p → p ≤ 16 * y + 16 → 16 * y + 16 ≤ p + k → CIV g b (16 * y + 16) (cgi b y k s) := by
  intro k
  induction k with
  | zero => intro p s h h1 h2 h3; have : p = 16 * y + 16 := by omega
            rw [← this]; exact h
  | succ k ih =>
    intro p s h h1 h2 h3
    show CIV g b (16 * y + 16) (if s.1 y = 0 then s else cgi b y k _)
    by_cases h0 : s.1 y = 0
    · rw [if_pos h0]
      have hno : ∀ j, p ≤ j → j < 16 * y + 16 → bx s.1 j = false := by
        intro j j1 j2
        unfold bx
        rw [show j / 16 = y by omega, h0]
        exact b_0 _
      obtain ⟨g1, g2, g3⟩ := CIV_gap h h2 (by omega) hno
      exact ⟨h.1, fun c hc => by rw [h.2.1 c hc, g2 c], g3⟩
    · rw [if_neg h0]
      obtain ⟨q, q1, q2, q3⟩ := CIV_st h hy h1 h0
      exact ih (q + 1) _ q3 (by omega) (by omega) (by omega)
theorem cgo_C {g : Nat → Bool} {b : Bool} : ∀ k y (s : CS3), y + k = 16 → CIV g b (16 * y) s → CIV g b 256 (cgo b k y s) := by
  intro k
  induction k with
  | zero => intro y s h1 h; rw [show 16 * y = 256 by omega] at h; exact h
  | succ k ih =>
    intro y s h1 h
    have h2 := cgi_C (y := y) (by omega) 16 (16 * y) s h (by omega) (by omega) (by omega)
    exact ih (y + 1) _ (by omega) h2
theorem cgN_spec {l r : Nat → Int32} {b : Bool} (hl : ∀ y, y < 16 → hb (l y)) : CNT (mnP (bx l) b) 256 (cgN b l r) := by
  have h := cgo_C (g := bx l) (b := b) 16 0 (l, r, 0) (by omega) ⟨hl, fun c hc => ⟨fun q => ⟨q, fun ⟨j, z, _⟩ => absurd z (Nat.not_lt_zero _)⟩, fun q => q.1⟩, CNT_0⟩
  exact h.2.2
theorem ISL_C {f : Nat → Int32} {a : Int32} (hf : ∀ y, y < 16 → hb (f y)) (h : ISL f a) : ∃ n, a = nI n ∧ CNT (mnP (bx f) false) 256 n := by
  obtain ⟨u, r, rfl⟩ := h
  refine ⟨_, rfl, CNT_cg (cgN_spec (fun y hy => by rw [ifl_lt hy]; exact hf y hy)) (fun i hi => mnP_cg hi (fun v hv => ?_))⟩
  unfold bx
  rw [ifl_lt (by omega)]
def rim (c : Nat) : Prop := (c % 16 = 0 ∨ c % 16 = 15) ∨ c / 16 = 0 ∨ c / 16 = 15
/-- no rim: a group that counts as a hole -/
def inn (g : Nat → Bool) (b : Bool) (i : Nat) : Prop := ¬ ∃ c, c < 256 ∧ rim c ∧ Rch g b i c
theorem b_32769 : ∀ i, i < 16 → bt 32769 i = decide (i = 0 ∨ i = 15) := by decide +kernel
theorem hL1_bt {u f : Nat → Int32} {c : Nat} (hc : c < 256) : bx (hL1 u f) c = !(bx f c) := by
  unfold bx hL1
  rw [ifl_lt (by omega), b_and, b_xor, b_65535, decide_eq_true (by omega), Bool.true_and, b_m1 _ (by omega)]
  cases bt (f (c / 16)) (c % 16) <;> rfl
theorem hL1_hb {u f : Nat → Int32} {y : Nat} (hy : y < 16) : hb (hL1 u f y) := by
  unfold hL1
  rw [ifl_lt hy]
  intro i hi
  rw [b_and, b_65535, decide_eq_false (by omega), Bool.false_and]
theorem hR4_bt {u r f : Nat → Int32} {c : Nat} (hc : c < 256) : bx (hR4 u r f) c = true ↔ bx (hL1 u f) c = true ∧ rim c := by
  unfold rim hR4 ifr
  have hx : c % 16 < 16 := by omega
  show bt (if 1 ≤ c / 16 ∧ c / 16 < 15 then (hL1 u f (c / 16) &&& 32769) &&& 65535 else hR3 u r f (c / 16)) (c % 16) = true ↔ bt (hL1 u f (c / 16)) (c % 16) = true ∧ _
  by_cases hm : 1 ≤ c / 16 ∧ c / 16 < 15
  · rw [if_pos hm, b_and, b_and, b_65535, decide_eq_true hx, Bool.and_true, b_32769 _ hx, Bool.and_eq_true, decide_eq_true_iff]
    constructor
    · intro q; exact ⟨q.1, Or.inl q.2⟩
    · intro q; exact ⟨q.1, by rcases q.2 with z | z; exact z; omega⟩
  · rw [if_neg hm]
    unfold hR3
    by_cases h0 : c / 16 = 15
    · rw [h0, upd_e, b_and, b_65535, decide_eq_true hx, Bool.and_true]
      exact ⟨fun q => ⟨q, Or.inr (Or.inr rfl)⟩, fun q => q.1⟩
    · have h1 : c / 16 = 0 := by omega
      rw [upd_n h0, h1, upd_e, b_and, b_65535, decide_eq_true hx, Bool.and_true]
      exact ⟨fun q => ⟨q, Or.inr (Or.inl rfl)⟩, fun q => q.1⟩
theorem hR4_hb {u r f : Nat → Int32} {y : Nat} (hy : y < 16) : hb (hR4 u r f y) := by
  have hb6 : ∀ v : Int32, hb (v &&& 65535) := fun v i hi => by rw [b_and, b_65535, decide_eq_false (by omega), Bool.and_false]
  unfold hR4 ifr
  show hb (if 1 ≤ y ∧ y < 15 then _ else hR3 u r f y)
  split
  · exact hb6 _
  · unfold hR3
    by_cases h0 : y = 15
    · rw [h0, upd_e]; exact hb6 _
    · rw [upd_n h0]
      by_cases h1 : y = 0
      · rw [h1, upd_e]; exact hb6 _
      · rw [upd_n h1, ifl_lt hy]; exact hb_0
theorem HOL_C {f : Nat → Int32} {a : Int32} (h : HOL f a) : ∃ n, a = nI n ∧ CNT (fun i => mnP (fun c => !(bx f c)) true i ∧ inn (fun c => !(bx f c)) true i) 256 n := by
  obtain ⟨u, r, rfl⟩ := h
  refine ⟨_, rfl, ?_⟩
  have hl : ∀ y, y < 16 → hb (hL1 u f y) := fun y hy => hL1_hb hy
  have hF := fld_spec (l := hL1 u f) (r := hR4 u r f) (b := true) hl ⟨fun y hy => hR4_hb hy, fun i hi q => ((hR4_bt hi).mp q).1⟩
  have hG : ∀ c, c < 256 → (bx (gout (hL1 u f) (hR5 u r f)) c = true ↔ bx (hL1 u f) c = true ∧ inn (bx (hL1 u f)) true c) := by
    intro c hc
    unfold hR5
    rw [bx_out hc, Bool.and_eq_true, Bool.not_eq_true', ← Bool.not_eq_true, hF.2 c hc]
    unfold inn
    constructor
    · intro ⟨z1, z2⟩
      exact ⟨z1, fun ⟨a, a1, a2, a3⟩ => z2 ⟨a, a1, (hR4_bt a1).mpr ⟨(Rch_g hc z1 a3).2, a2⟩, Rch_sy hc z1 a3⟩⟩
    · intro ⟨z1, z2⟩
      exact ⟨z1, fun ⟨a, a1, a2, a3⟩ => z2 ⟨a, a1, ((hR4_bt a1).mp a2).2, Rch_sy a1 ((hR4_bt a1).mp a2).1 a3⟩⟩
  have hRR : ∀ i c, i < 256 → bx (gout (hL1 u f) (hR5 u r f)) i = true → (Rch (bx (gout (hL1 u f) (hR5 u r f))) true i c ↔ Rch (bx (hL1 u f)) true i c) := by
    intro i c hi hg
    have hgi := (hG i hi).mp hg
    constructor
    · exact Rch_mono (fun v hv q => ((hG v hv).mp q).1)
    · intro hR
      refine (hR (fun z => Rch (bx (hL1 u f)) true i z ∧ Rch (bx (gout (hL1 u f) (hR5 u r f))) true i z) ⟨Rch_0, Rch_0⟩ (fun a v hu hu2 hv hgv hn => ?_)).2
      have hgv2 := Rch_s hu.1 hu2 hv hgv hn
      exact ⟨hgv2, Rch_s hu.2 hu2 hv ((hG v hv).mpr ⟨hgv, fun ⟨z, z1, z2, z3⟩ => hgi.2 ⟨z, z1, z2, Rch_t hgv2 z3⟩⟩) hn⟩
  refine CNT_cg (cgN_spec (l := gout (hL1 u f) (hR5 u r f)) (r := hR5 u r f) (fun y hy => by unfold gout; rw [ifl_lt hy]; exact hb_andl (hl y hy))) (fun i hi => ?_)
  have hcg : ∀ v, v < 256 → bx (hL1 u f) v = !(bx f v) := fun v hv => hL1_bt hv
  have hin : inn (bx (hL1 u f)) true i ↔ inn (fun c => !(bx f c)) true i := by
    unfold inn
    constructor
    · intro q ⟨c, c1, c2, c3⟩; exact q ⟨c, c1, c2, (Rch_cg hcg).mpr c3⟩
    · intro q ⟨c, c1, c2, c3⟩; exact q ⟨c, c1, c2, (Rch_cg hcg).mp c3⟩
  rw [← mnP_cg (g := bx (hL1 u f)) hi hcg, ← hin]
  constructor
  · intro ⟨z1, z2⟩
    have z3 := (hG i hi).mp z1
    refine ⟨⟨z3.1, fun j j1 j2 j3 => ?_⟩, z3.2⟩
    have hj : bx (gout (hL1 u f) (hR5 u r f)) j = true := (hG j (by omega)).mpr ⟨j2, fun ⟨c, c1, c2, c3⟩ => z3.2 ⟨c, c1, c2, Rch_t (Rch_sy (by omega) j2 j3) c3⟩⟩
    exact z2 j j1 hj ((hRR j i (by omega) hj).mpr j3)
  · intro ⟨⟨z1, z2⟩, z3⟩
    refine ⟨(hG i hi).mpr ⟨z1, z3⟩, fun j j1 j2 j3 => z2 j j1 ((hG j (by omega)).mp j2).1 ((hRR j i (by omega) j2).mp j3)⟩
