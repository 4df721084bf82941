/-! ===== the reference's own calls, VII: what write tells, without the machine ===== -/
def pv (s : IS) (i f : Nat) : Nat := (itv s.1 s.2 (nI i) (nI f)).toNatClampNeg
/-- the pieces are pieces -/
def PV (s : IS) : Prop := (s.1 ≤ 256 ∧ (∀ i f, i < s.1 → f < 4 → itv s.1 s.2 (nI i) (nI f) = nI (pv s i f)) ∧ ∀ i, i < s.1 → (pv s i 0 < 16 ∧ pv s i 1 < 16) ∧ (1 ≤ pv s i 2 ∧ pv s i 2 ≤ 16) ∧ (1 ≤ pv s i 3 ∧ pv s i 3 ≤ 16)) ∧ ∀ i j, i < j → j < s.1 → 16 * pv s i 1 + pv s i 0 < 16 * pv s j 1 + pv s j 0
def nxt (g : Nat → Bool) : Nat → Nat → Nat
  | 0, i => i
  | j + 1, i => if g i = true then i else nxt g j (i + 1)
def itx (g : Nat → Bool) (n i : Nat) : Nat → Nat
  | 0 => nxt g (n - i) i
  | k + 1 => nxt g (n - (itx g n i k + 1)) (itx g n i k + 1)
theorem nxt_ge {g : Nat → Bool} : ∀ j i, i ≤ nxt g j i ∧ nxt g j i ≤ i + j := by
  intro j
  induction j with
  | zero => intro i; exact ⟨Nat.le_refl _, Nat.le_refl _⟩
  | succ j ih =>
    intro i
    show i ≤ (if g i = true then i else nxt g j (i + 1)) ∧ (if g i = true then i else nxt g j (i + 1)) ≤ i + (j + 1)
    have := ih (i + 1)
    split <;> omega
theorem nxt_hit {g : Nat → Bool} : ∀ j i, nxt g j i < i + j → g (nxt g j i) = true := by
  intro j
  induction j with
  | zero => intro i h; exact absurd h (by show ¬ i < i + 0; omega)
  | succ j ih =>
    intro i h
    by_cases hg : g i = true
    · have e : nxt g (j + 1) i = i := if_pos hg
      rw [e]; exact hg
    · have e : nxt g (j + 1) i = nxt g j (i + 1) := if_neg hg
      rw [e] at h ⊢
      exact ih (i + 1) (by omega)
theorem itx_t {g : Nat → Bool} {n i : Nat} (hi : i < n) (hg : g i = true) : ∀ k, itx g n i (k + 1) = itx g n (i + 1) k := by
  have h0 : itx g n i 0 = i := by
    show nxt g (n - i) i = i
    rw [show n - i = (n - (i + 1)) + 1 by omega]
    exact if_pos hg
  intro k
  induction k with
  | zero =>
    show nxt g (n - (itx g n i 0 + 1)) (itx g n i 0 + 1) = nxt g (n - (i + 1)) (i + 1)
    rw [h0]
  | succ k ih =>
    show nxt g (n - (itx g n i (k + 1) + 1)) (itx g n i (k + 1) + 1) = nxt g (n - (itx g n (i + 1) k + 1)) (itx g n (i + 1) k + 1)
    rw [ih]
theorem itx_f {g : Nat → Bool} {n i : Nat} (hi : i < n) (hg : ¬ g i = true) : ∀ k, itx g n i k = itx g n (i + 1) k := by
  intro k
  induction k with
  | zero =>
    show nxt g (n - i) i = nxt g (n - (i + 1)) (i + 1)
    rw [show n - i = (n - (i + 1)) + 1 by omega]
    exact if_neg hg
  | succ k ih =>
    show nxt g (n - (itx g n i k + 1)) (itx g n i k + 1) = nxt g (n - (itx g n (i + 1) k + 1)) (itx g n (i + 1) k + 1)
    rw [ih]
def cnr (g : Nat → Bool) : Nat → Nat → Nat
  | 0, _ => 0
  | j + 1, i => (if g i = true then 1 else 0) + cnr g j (i + 1)
theorem cnr_le {g : Nat → Bool} : ∀ j i, cnr g j i ≤ j := by
  intro j
  induction j with
  | zero => intro i; exact Nat.le_refl _
  | succ j ih =>
    intro i
    have := ih (i + 1)
    show (if g i = true then 1 else 0) + cnr g j (i + 1) ≤ j + 1
    split <;> omega
theorem cnr_add {a b c : Nat → Bool} : ∀ j i, (∀ k, i ≤ k → k < i + j → ((a k = true ↔ b k = true ∨ c k = true) ∧ ¬ (b k = true ∧ c k = true))) → cnr a j i = cnr b j i + cnr c j i := by
  intro j
  induction j with
  | zero => intro i _; rfl
  | succ j ih =>
    intro i h
    have h0 := h i (by omega) (by omega)
    have h1 := ih (i + 1) (fun k h1 h2 => h k (by omega) (by omega))
    show (if a i = true then 1 else 0) + cnr a j (i + 1) = ((if b i = true then 1 else 0) + cnr b j (i + 1)) + ((if c i = true then 1 else 0) + cnr c j (i + 1))
    rw [h1]
    by_cases hb' : b i = true
    · by_cases hc : c i = true
      · exact absurd ⟨hb', hc⟩ h0.2
      · rw [if_pos (h0.1.mpr (Or.inl hb')), if_pos hb', if_neg hc]; omega
    · by_cases hc : c i = true
      · rw [if_pos (h0.1.mpr (Or.inr hc)), if_neg hb', if_pos hc]; omega
      · rw [if_neg (fun q => (h0.1.mp q).elim hb' hc), if_neg hb', if_neg hc]; omega
section P51
variable {n : Nat} {p : Nat → Int32} {q : Nat → Nat → Nat}
def kdn (q : Nat → Nat → Nat) (i : Nat) : Nat := 17 * q i 2 + q i 3
def key (q : Nat → Nat → Nat) (i : Nat) : Nat := 16 * (q i 2 - 1) + (q i 3 - 1)
def kk (g : Nat) : Nat := 17 * (g / 16 + 1) + (g % 16 + 1)
/-- the numbers of the items -/
def QV (n : Nat) (p : Nat → Int32) (q : Nat → Nat → Nat) : Prop := n ≤ 256 ∧ (∀ i f, i < n → f < 4 → itv n p (nI i) (nI f) = nI (q i f)) ∧ ∀ i, i < n → (q i 0 < 16 ∧ q i 1 < 16) ∧ (1 ≤ q i 2 ∧ q i 2 ≤ 16) ∧ (1 ≤ q i 3 ∧ q i 3 ≤ 16)
theorem kd_n (h : QV n p q) {i : Nat} (hi : i < n) : kd n p i = nI (kdn q i) := by
  unfold kd kdn
  rw [h.2.1 i 2 hi (by decide), h.2.1 i 3 hi (by decide), pk_mul, nI_add, Nat.mul_comm]
theorem kdn_key (h : QV n p q) {i : Nat} (hi : i < n) : kdn q i = kk (key q i) ∧ key q i < 256 := by
  have := h.2.2 i hi
  unfold kdn kk key
  omega
theorem kk_lt {a b : Nat} (hb' : b < 256) (ha : a < 256) : kk a < kk b ↔ a < b := by
  unfold kk
  omega
def mtc (q : Nat → Nat → Nat) (w h i : Nat) : Bool := decide (q i 2 = w ∧ q i 3 = h)
theorem mtc_key (h : QV n p q) {i g : Nat} (hi : i < n) (hg : g < 256) : mtc q (g / 16 + 1) (g % 16 + 1) i = true ↔ key q i = g := by
  have := h.2.2 i hi
  unfold mtc key
  rw [decide_eq_true_iff]
  omega
theorem kd_mtc (h : QV n p q) {i g : Nat} (hi : i < n) (hg : g < 256) : kd n p i = nI (kk g) ↔ mtc q (g / 16 + 1) (g % 16 + 1) i = true := by
  rw [mtc_key h hi hg, kd_n h hi]
  have k1 := kdn_key h hi
  constructor
  · intro z
    have z1 := nI_inj (by unfold kdn; have := h.2.2 i hi; omega) (by unfold kk; omega) z
    have c1 := kk_lt k1.2 hg
    have c2 := kk_lt hg k1.2
    omega
  · intro z
    rw [k1.1, z]
theorem gat_it {K : Int32} {g : Nat → Bool} (hk : ∀ i, i < n → (kd n p i = K ↔ g i = true)) : ∀ (j i : Nat) (s : GS), i + j = n → (∀ k, k < s.1 → (gat n p K j i s).2.1 k = s.2.1 k ∧ (gat n p K j i s).2.2 k = s.2.2 k) ∧ (gat n p K j i s).1 = s.1 + cnr g j i ∧ ∀ k, (s.1 + k < (gat n p K j i s).1 → itx g n i k < n ∧ (gat n p K j i s).2.1 (s.1 + k) = itv n p (nI (itx g n i k)) (nI 0) ∧ (gat n p K j i s).2.2 (s.1 + k) = itv n p (nI (itx g n i k)) (nI 1)) ∧ (s.1 + k = (gat n p K j i s).1 → itx g n i k = n) := by
  intro j
  induction j with
  | zero =>
    intro i s hi
    refine ⟨fun k _ => ⟨rfl, rfl⟩, rfl, fun k => ⟨fun z => absurd z (by show ¬ s.1 + k < s.1; omega), fun z => ?_⟩⟩
    have z : s.1 + k = s.1 := z
    have k0 : k = 0 := by omega
    subst k0
    show nxt g (n - i) i = n
    rw [show n - i = 0 by omega]
    show i = n
    omega
  | succ j ih =>
    intro i s hi
    by_cases hg : g i = true
    · have e1 : gat n p K (j + 1) i s = gat n p K j (i + 1) (s.1 + 1, upd s.2.1 s.1 (itv n p (nI i) (nI 0)), upd s.2.2 s.1 (itv n p (nI i) (nI 1))) := by
        show gat n p K j (i + 1) (if kd n p i = K then _ else s) = _
        rw [if_pos ((hk i (by omega)).mpr hg)]
      have h1 := ih (i + 1) (s.1 + 1, upd s.2.1 s.1 (itv n p (nI i) (nI 0)), upd s.2.2 s.1 (itv n p (nI i) (nI 1))) (by omega)
      rw [e1]
      generalize gat n p K j (i + 1) (s.1 + 1, upd s.2.1 s.1 (itv n p (nI i) (nI 0)), upd s.2.2 s.1 (itv n p (nI i) (nI 1))) = G at h1 ⊢
      obtain ⟨g1, g2, g3⟩ := h1
      dsimp only at g1 g2 g3
      refine ⟨fun k hk => ?_, ?_, fun k => ?_⟩
      · have := g1 k (by omega)
        rw [upd_n (by omega), upd_n (by omega)] at this
        exact this
      · rw [g2]
        show s.1 + 1 + cnr g j (i + 1) = s.1 + ((if g i = true then 1 else 0) + cnr g j (i + 1))
        rw [if_pos hg]
        omega
      · cases k with
        | zero =>
          have e0 : itx g n i 0 = i := by
            show nxt g (n - i) i = i
            rw [show n - i = (n - (i + 1)) + 1 by omega]
            exact if_pos hg
          have z0 := g1 s.1 (by omega)
          rw [upd_e, upd_e] at z0
          rw [e0]
          exact ⟨fun _ => ⟨by omega, z0⟩, fun z => absurd z (by omega)⟩
        | succ k =>
          have z0 := g3 k
          rw [itx_t (by omega) hg, show s.1 + (k + 1) = s.1 + 1 + k by omega]
          exact z0
    · have e1 : gat n p K (j + 1) i s = gat n p K j (i + 1) s := by
        show gat n p K j (i + 1) (if kd n p i = K then _ else s) = _
        rw [if_neg (fun z => hg ((hk i (by omega)).mp z))]
      have h1 := ih (i + 1) s (by omega)
      rw [e1]
      refine ⟨h1.1, ?_, fun k => ?_⟩
      · rw [h1.2.1]
        show s.1 + cnr g j (i + 1) = s.1 + ((if g i = true then 1 else 0) + cnr g j (i + 1))
        rw [if_neg hg]
        omega
      · rw [itx_f (by omega) hg]
        exact h1.2.2 k
theorem kal_in (h : QV n p q) {c : Nat} (hc : c < 1000) : ∀ (j i : Nat) (nx : Int32), i + j = n → ((nx = nI 0 ∧ ∀ a, a < i → kdn q a ≤ c) ∨ ∃ b, b < i ∧ c < kdn q b ∧ nx = nI (kdn q b) ∧ ∀ a, a < i → c < kdn q a → kdn q b ≤ kdn q a) → ((kal n p (nI c) j i nx = nI 0 ∧ ∀ a, a < n → kdn q a ≤ c) ∨ ∃ b, b < n ∧ c < kdn q b ∧ kal n p (nI c) j i nx = nI (kdn q b) ∧ ∀ a, a < n → c < kdn q a → kdn q b ≤ kdn q a) := by
  intro j
  induction j with
  | zero =>
    intro i nx hi hh
    have : i = n := by omega
    subst this
    exact hh
  | succ j ih =>
    intro i nx hi hh
    have hb1 : ∀ a, a < n → 18 ≤ kdn q a ∧ kdn q a ≤ 288 := fun a ha => by have := h.2.2 a ha; unfold kdn; omega
    refine ih (i + 1) _ (by omega) ?_
    have hi1 := hb1 i (by omega)
    rw [kd_n h (by omega)]
    have hcl : nI c < nI (kdn q i) ↔ c < kdn q i := by rw [i_lt, i_n _ (by omega), i_n _ (by omega)]; omega
    by_cases hci : c < kdn q i
    · rcases hh with ⟨h1, h2⟩ | ⟨b, h1, h2, h3, h4⟩
      · rw [if_pos ⟨hcl.mpr hci, Or.inl h1⟩]
        refine Or.inr ⟨i, by omega, hci, rfl, fun a ha hca => ?_⟩
        by_cases ha2 : a = i
        · subst ha2; exact Nat.le_refl _
        · exact absurd (h2 a (by omega)) (by omega)
      · have hbb := hb1 b (by omega)
        have hnx : nI (kdn q i) < nx ↔ kdn q i < kdn q b := by rw [h3, i_lt, i_n _ (by omega), i_n _ (by omega)]; omega
        have hn0 : ¬ nx = 0 := fun z => by have := nI_0_of (h3.symm.trans z); omega
        by_cases hlt : kdn q i < kdn q b
        · rw [if_pos ⟨hcl.mpr hci, Or.inr (hnx.mpr hlt)⟩]
          refine Or.inr ⟨i, by omega, hci, rfl, fun a ha hca => ?_⟩
          by_cases ha2 : a = i
          · subst ha2; exact Nat.le_refl _
          · have := h4 a (by omega) hca; omega
        · rw [if_neg (fun z => z.2.elim hn0 (fun y => hlt (hnx.mp y)))]
          refine Or.inr ⟨b, by omega, h2, h3, fun a ha hca => ?_⟩
          by_cases ha2 : a = i
          · subst ha2; omega
          · exact h4 a (by omega) hca
    · rw [if_neg (fun z => hci (hcl.mp z.1))]
      rcases hh with ⟨h1, h2⟩ | ⟨b, h1, h2, h3, h4⟩
      · refine Or.inl ⟨h1, fun a ha => ?_⟩
        by_cases ha2 : a = i
        · subst ha2; omega
        · exact h2 a (by omega)
      · refine Or.inr ⟨b, by omega, h2, h3, fun a ha hca => ?_⟩
        by_cases ha2 : a = i
        · subst ha2; omega
        · exact h4 a (by omega) hca
/-- the class's next kind, at the reference's g -/
def NXK (n : Nat) (q : Nat → Nat → Nat) (g : Nat) (K : Int32) : Prop := (K = nI 0 ∧ ∀ a, a < n → key q a < g) ∨ ∃ b, b < n ∧ g ≤ key q b ∧ K = nI (kk (key q b)) ∧ ∀ a, a < n → g ≤ key q a → key q b ≤ key q a
theorem NXK_0 (h : QV n p q) : NXK n q 0 (kaf n p (nI 0)) := by
  rcases kal_in (c := 0) h (by decide) n 0 (nI 0) (by omega) (Or.inl ⟨rfl, fun a ha => absurd ha (Nat.not_lt_zero _)⟩) with ⟨h1, h2⟩ | ⟨b, h1, h2, h3, h4⟩
  · refine Or.inl ⟨h1, fun a ha => ?_⟩
    have := h2 a ha
    have := h.2.2 a ha
    unfold kdn at *
    omega
  · refine Or.inr ⟨b, h1, Nat.zero_le _, by rw [← (kdn_key h h1).1]; exact h3, fun a ha _ => ?_⟩
    have k1 := kdn_key h h1
    have k2 := kdn_key h ha
    have := h4 a ha (by have := h.2.2 a ha; unfold kdn; omega)
    have := kk_lt k1.2 k2.2
    omega
theorem NXK_s (h : QV n p q) {g : Nat} (hg : g < 256) : NXK n q (g + 1) (kaf n p (nI (kk g))) := by
  rcases kal_in (c := kk g) h (by unfold kk; omega) n 0 (nI 0) (by omega) (Or.inl ⟨rfl, fun a ha => absurd ha (Nat.not_lt_zero _)⟩) with ⟨h1, h2⟩ | ⟨b, h1, h2, h3, h4⟩
  · refine Or.inl ⟨h1, fun a ha => ?_⟩
    have := h2 a ha
    have k1 := kdn_key h ha
    have := kk_lt k1.2 hg
    omega
  · have k1 := kdn_key h h1
    have z1 := kk_lt k1.2 hg
    refine Or.inr ⟨b, h1, by omega, by rw [← k1.1]; exact h3, fun a ha hga => ?_⟩
    have k2 := kdn_key h ha
    have z2 := kk_lt k2.2 hg
    have := h4 a ha (by omega)
    have := kk_lt k1.2 k2.2
    omega
theorem NXK_no {g : Nat} {K : Int32} (hK : NXK n q g K) (hno : ∀ a, a < n → ¬ key q a = g) : NXK n q (g + 1) K := by
  rcases hK with ⟨h1, h2⟩ | ⟨b, h1, h2, h3, h4⟩
  · exact Or.inl ⟨h1, fun a ha => by have := h2 a ha; omega⟩
  · refine Or.inr ⟨b, h1, by have := hno b h1; omega, h3, fun a ha hga => h4 a ha (by omega)⟩
theorem NXK_yes {g a : Nat} {K : Int32} (hK : NXK n q g K) (ha : a < n) (hag : key q a = g) : K = nI (kk g) := by
  rcases hK with ⟨h1, h2⟩ | ⟨b, h1, h2, h3, h4⟩
  · have := h2 a ha; omega
  · have := h4 a ha (by omega)
    rw [h3, show key q b = g by omega]
end P51
/-- the class's text against the reference's -/
def ER (s : ES) (t : Nat) (F : Nat → Int32) : Prop := s.1.1 = min t 400 ∧ s.2 = decide (t ≤ 400) ∧ ∀ i, i < min t 400 → s.1.2 i = F i
theorem ER_em {s : ES} {t : Nat} {F : Nat → Int32} {x : Int32} (h : ER s t F) : ER (em s x) (t + 1) (upd F t x) := by
  obtain ⟨h1, h2, h3⟩ := h
  unfold em
  by_cases ht : t < 400
  · rw [if_pos (by omega)]
    refine ⟨by show s.1.1 + 1 = _; omega, by show s.2 = _; rw [h2, decide_eq_true (by omega), decide_eq_true (by omega)], fun i hi => ?_⟩
    show upd s.1.2 s.1.1 x i = upd F t x i
    have e1 : s.1.1 = t := by omega
    rw [e1]
    by_cases hq : i = t
    · rw [hq, upd_e, upd_e]
    · rw [upd_n hq, upd_n hq]; exact h3 i (by omega)
  · rw [if_neg (by omega)]
    refine ⟨by show s.1.1 = _; omega, by show false = _; rw [decide_eq_false (by omega)], fun i hi => ?_⟩
    show s.1.2 i = _
    rw [upd_n (by omega)]
    exact h3 i (by omega)
theorem upd_cm {f : Nat → Int32} {a b : Nat} {x y : Int32} (h : a ≠ b) : upd (upd f a x) b y = upd (upd f b y) a x := by
  funext i
  unfold upd
  by_cases h1 : i = a
  · by_cases h2 : i = b
    · exact absurd (h1.symm.trans h2) h
    · rw [if_neg h2, if_pos h1, if_pos h1]
  · by_cases h2 : i = b
    · rw [if_pos h2, if_neg h1, if_pos h2]
    · rw [if_neg h2, if_neg h1, if_neg h1, if_neg h2]
theorem upd_sf {f : Nat → Int32} {a : Nat} {x : Int32} (h : f a = x) : upd f a x = f := by
  funext i
  unfold upd
  by_cases h1 : i = a
  · rw [if_pos h1, h1, h]
  · rw [if_neg h1]
def lnF (X Y : Nat → Int32) (k len : Nat) (F : Nat → Int32) (t : Nat) : Nat → Int32 := if 1 < len then upd (upd (upd (upd (upd F t (X k)) (t + 1) (Y k)) (t + 2) (nI len)) (t + 3) ((X (k + 1) - X k) &&& nI 255)) (t + 4) ((Y (k + 1) - Y k) &&& nI 255) else upd (upd (upd F t (X k)) (t + 1) (Y k)) (t + 2) (nI len)
def lnT (len t : Nat) : Nat := if 1 < len then t + 5 else t + 3
theorem ER_wln {s : ES} {t k len : Nat} {F X Y : Nat → Int32} (h : ER s t F) : ER (wln X Y k len s) (lnT len t) (lnF X Y k len F t) := by
  unfold wln lnT lnF
  by_cases hl : 1 < len
  · rw [if_pos hl, if_pos hl, if_pos hl]
    exact ER_em (ER_em (ER_em (ER_em (ER_em h))))
  · rw [if_neg hl, if_neg hl, if_neg hl]
    exact ER_em (ER_em (ER_em h))
theorem lnF_cm {t k len a : Nat} {F X Y : Nat → Int32} {x : Int32} (ha : a < t) : lnF X Y k len (upd F a x) t = upd (lnF X Y k len F t) a x := by
  unfold lnF
  by_cases hl : 1 < len
  · rw [if_pos hl, if_pos hl, upd_cm (a := a) (b := t) (by omega), upd_cm (a := a) (b := t + 1) (by omega), upd_cm (a := a) (b := t + 2) (by omega), upd_cm (a := a) (b := t + 3) (by omega), upd_cm (a := a) (b := t + 4) (by omega)]
  · rw [if_neg hl, if_neg hl, upd_cm (a := a) (b := t) (by omega), upd_cm (a := a) (b := t + 1) (by omega), upd_cm (a := a) (b := t + 2) (by omega)]
theorem lnF_o {t k len a : Nat} {F X Y : Nat → Int32} (ha : a < t) : lnF X Y k len F t a = F a := by
  unfold lnF
  by_cases hl : 1 < len
  · rw [if_pos hl, upd_n (by omega), upd_n (by omega), upd_n (by omega), upd_n (by omega), upd_n (by omega)]
  · rw [if_neg hl, upd_n (by omega), upd_n (by omega), upd_n (by omega)]
def lend (X Y : Nat → Int32) (m k : Nat) : Nat := lef X Y k (m - (k + 1)) (k + 1)
theorem lend_le {X Y : Nat → Int32} {m k : Nat} (hk : k < m) : k + 1 ≤ lend X Y m k ∧ lend X Y m k ≤ m := by
  have := lef_le (xs := X) (ys := Y) (f := k) (m - (k + 1)) (k + 1)
  unfold lend
  omega
theorem lend_2 {X Y : Nat → Int32} {m k : Nat} (hk : k + 1 < m) : k + 2 ≤ lend X Y m k := by
  unfold lend
  rw [show m - (k + 1) = (m - (k + 2)) + 1 by omega]
  show _ ≤ (if ssb X Y k (k + 1) = true then lef X Y k (m - (k + 2)) (k + 1 + 1) else k + 1)
  have e1 : ssb X Y k (k + 1) = true := decide_eq_true ⟨rfl, rfl⟩
  rw [if_pos e1]
  have := lef_le (xs := X) (ys := Y) (f := k) (m - (k + 2)) (k + 1 + 1)
  omega
theorem wgl_skip {X Y : Nat → Int32} {m : Nat} : ∀ (j k : Nat) (u : Nat × ES), k + j = m → k ≤ u.1 → u.1 ≤ m → wgl X Y m j k u = wgl X Y m (m - u.1) u.1 u := by
  intro j
  induction j with
  | zero =>
    intro k u h1 h2 h3
    rw [show m - u.1 = 0 by omega]
    rfl
  | succ j ih =>
    intro k u h1 h2 h3
    by_cases hk : k = u.1
    · rw [show m - u.1 = j + 1 by omega, ← hk]
    · show wgl X Y m j (k + 1) (if k = u.1 then _ else u) = _
      rw [if_neg hk]
      exact ih (k + 1) u (by omega) (by omega) h3
theorem cln_skip {X Y : Nat → Int32} {m : Nat} : ∀ (j k : Nat) (u : Nat × Nat), k + j = m → k ≤ u.1 → u.1 ≤ m → cln X Y m j k u = cln X Y m (m - u.1) u.1 u := by
  intro j
  induction j with
  | zero =>
    intro k u h1 h2 h3
    rw [show m - u.1 = 0 by omega]
    rfl
  | succ j ih =>
    intro k u h1 h2 h3
    by_cases hk : k = u.1
    · rw [show m - u.1 = j + 1 by omega, ← hk]
    · show cln X Y m j (k + 1) (if k = u.1 then _ else u) = _
      rw [if_neg hk]
      exact ih (k + 1) u (by omega) (by omega) h3
theorem wgl_st {X Y : Nat → Int32} {m k : Nat} {s : ES} (hk : k < m) : wgl X Y m (m - k) k (k, s) = wgl X Y m (m - lend X Y m k) (lend X Y m k) (lend X Y m k, wln X Y k (lend X Y m k - k) s) := by
  have hl := lend_le (X := X) (Y := Y) hk
  rw [show m - k = (m - (k + 1)) + 1 by omega]
  show wgl X Y m (m - (k + 1)) (k + 1) (if k = k then (lend X Y m k, wln X Y k (lend X Y m k - k) s) else _) = _
  rw [if_pos rfl]
  exact wgl_skip _ _ _ (by omega) hl.1 hl.2
theorem cln_st {X Y : Nat → Int32} {m k c : Nat} (hk : k < m) : cln X Y m (m - k) k (k, c) = cln X Y m (m - lend X Y m k) (lend X Y m k) (lend X Y m k, c + 1) := by
  have hl := lend_le (X := X) (Y := Y) hk
  rw [show m - k = (m - (k + 1)) + 1 by omega]
  show cln X Y m (m - (k + 1)) (k + 1) (if k = k then (lend X Y m k, c + 1) else _) = _
  rw [if_pos rfl]
  exact cln_skip _ _ _ (by omega) hl.1 hl.2
theorem cln_le {X Y : Nat → Int32} {m : Nat} : ∀ (j k c : Nat), m - k ≤ j → k ≤ m → (cln X Y m (m - k) k (k, c)).2 ≤ c + (m - k + 1) / 2 := by
  intro j
  induction j with
  | zero =>
    intro k c h1 h2
    rw [show m - k = 0 by omega]
    exact Nat.le_add_right _ _
  | succ j ih =>
    intro k c h1 h2
    by_cases hk : k < m
    · rw [cln_st hk]
      have hl := lend_le (X := X) (Y := Y) hk
      have := ih (lend X Y m k) (c + 1) (by omega) hl.2
      by_cases h3 : k + 1 < m
      · have := lend_2 (X := X) (Y := Y) h3
        omega
      · omega
    · rw [show m - k = 0 by omega]
      exact Nat.le_add_right _ _
