/-! ===== the flood: what it reaches ===== -/
def bx (r : Nat → Int32) (i : Nat) : Bool := bt (r (i / 16)) (i % 16)
def nbr (b : Bool) (u v : Nat) : Prop := (u % 16 ≤ v % 16 + 1 ∧ v % 16 ≤ u % 16 + 1) ∧ (u / 16 ≤ v / 16 + 1 ∧ v / 16 ≤ u / 16 + 1) ∧ (b = true ∨ u % 16 = v % 16 ∨ u / 16 = v / 16)
theorem nbr_sy {b : Bool} {u v : Nat} (h : nbr b u v) : nbr b v u := ⟨⟨h.1.2, h.1.1⟩, ⟨h.2.1.2, h.2.1.1⟩, h.2.2.imp id (fun q => q.imp Eq.symm Eq.symm)⟩
/-- what is reached from a within g -/
def Rch (g : Nat → Bool) (b : Bool) (a c : Nat) : Prop := ∀ S : Nat → Prop, S a → (∀ u v, S u → u < 256 → v < 256 → g v = true → nbr b u v → S v) → S c
theorem Rch_0 {g : Nat → Bool} {b : Bool} {a : Nat} : Rch g b a a := fun _ h _ => h
theorem Rch_t {g : Nat → Bool} {b : Bool} {a c z : Nat} (h1 : Rch g b a c) (h2 : Rch g b c z) : Rch g b a z := fun S hS hs => h2 S (h1 S hS hs) hs
theorem Rch_s {g : Nat → Bool} {b : Bool} {a u v : Nat} (h : Rch g b a u) (hu : u < 256) (hv : v < 256) (hg : g v = true) (hn : nbr b u v) : Rch g b a v := fun S hS hs => hs u v (h S hS hs) hu hv hg hn
theorem Rch_in {g : Nat → Bool} {b : Bool} {a c : Nat} (h : Rch g b a c) : c = a ∨ (c < 256 ∧ g c = true) := h (fun z => z = a ∨ (z < 256 ∧ g z = true)) (Or.inl rfl) (fun u v _ _ hv hg _ => Or.inr ⟨hv, hg⟩)
theorem Rch_g {g : Nat → Bool} {b : Bool} {a c : Nat} (ha : a < 256) (hg : g a = true) (h : Rch g b a c) : c < 256 ∧ g c = true := by
  rcases Rch_in h with h | h
  · rw [h]; exact ⟨ha, hg⟩
  · exact h
theorem Rch_sy {g : Nat → Bool} {b : Bool} {a c : Nat} (ha : a < 256) (hg : g a = true) (h : Rch g b a c) : Rch g b c a := by
  have h1 := h (fun z => (z < 256 ∧ g z = true) ∧ Rch g b z a) ⟨⟨ha, hg⟩, Rch_0⟩ (fun u v hu hu2 hv hgv hn => ⟨⟨hv, hgv⟩, Rch_t (Rch_s Rch_0 hv hu2 hu.1.2 (nbr_sy hn)) hu.2⟩)
  exact h1.2
theorem Rch_mono {g g' : Nat → Bool} {b : Bool} {a c : Nat} (hs : ∀ v, v < 256 → g v = true → g' v = true) (h : Rch g b a c) : Rch g' b a c := fun S hS hs' => h S hS (fun u v hu hu2 hv hgv hn => hs' u v hu hu2 hv (hs v hv hgv) hn)
theorem bx_H {r : Nat → Int32} {i : Nat} (hi : i < 256) : bx r i = true ↔ Hp r ((i % 16 : Nat) : Int) ((i / 16 : Nat) : Int) := (Hp_n (by omega) (by omega)).symm
theorem H_bx {r : Nat → Int32} {x y : Int} (h : Hp r x y) : bx r (16 * y.toNat + x.toNat) = true := by
  obtain ⟨h1, h2, h3⟩ := h
  unfold bx
  rw [show (16 * y.toNat + x.toNat) / 16 = y.toNat by omega, show (16 * y.toNat + x.toNat) % 16 = x.toNat by omega]
  exact h3
theorem rm_Z {r : Nat → Int32} {y : Nat} (hy : y < 16) : rm r y = rwZ r ((y : Int) - 1) := by
  unfold rm rowv rwZ
  have e : (nI y - nI 1).toInt = (y : Int) - 1 := pk_sub_toInt (by omega) (by omega)
  have e2 : (nI y - nI 1).toNatClampNeg = ((y : Int) - 1).toNat := by
    show (nI y - nI 1).toInt.toNat = _
    rw [e]
  rw [e, e2, show nI 0 = 0 from rfl]
theorem hb_and {v w : Int32} (h1 : hb w) : hb (v &&& w) := fun i hi => by rw [b_and, h1 i hi, Bool.and_false]
theorem rb_or {v w : Int32} {x : Int} : rb (v ||| w) x ↔ rb v x ∨ rb w x := by
  unfold rb
  rw [b_or, Bool.or_eq_true]
  constructor
  · intro h; exact h.2.imp (fun q => ⟨h.1, q⟩) (fun q => ⟨h.1, q⟩)
  · intro h; rcases h with h | h; exact ⟨h.1, Or.inl h.2⟩; exact ⟨h.1, Or.inr h.2⟩
theorem rb_n {v : Int32} {x : Nat} (hx : x < 16) : rb v x ↔ bt v x = true := ⟨fun h => h.2, fun h => ⟨by omega, h⟩⟩
theorem tch_bt {b : Bool} {v : Int32} {x : Nat} (h : hb v) (hx : x < 16) : bt (tch b v) x = true ↔ (rb v x ∨ (b = true ∧ (rb v (x - 1) ∨ rb v (x + 1)))) := by
  unfold tch
  cases b
  · rw [if_neg (by decide), ← rb_n hx]
    exact ⟨fun q => Or.inl q, fun q => q.elim id (fun z => absurd z.1 (by decide))⟩
  · rw [if_pos rfl]
    have := rb_gr h hx
    unfold gr1 at this
    rw [this]
    constructor
    · intro q
      rcases q with q | q | q
      · exact Or.inr ⟨rfl, Or.inl q⟩
      · exact Or.inl q
      · exact Or.inr ⟨rfl, Or.inr q⟩
    · intro q
      rcases q with q | ⟨-, q | q⟩
      · exact Or.inr (Or.inl q)
      · exact Or.inl q
      · exact Or.inr (Or.inr q)
section P57
variable {l r : Nat → Int32} {b : Bool}
def v0 (l r : Nat → Int32) (y : Nat) (b : Bool) : Int32 := (r y ||| tch b (rm r y ||| rp r y)) &&& l y
theorem v0_bt (hr : ∀ y, y < 16 → hb (r y)) {x y : Nat} (hx : x < 16) (hy : y < 16) : bt (v0 l r y b) x = true ↔ (bt (r y) x = true ∨ (Hp r x (y - 1) ∨ Hp r x (y + 1)) ∨ (b = true ∧ ((Hp r (x - 1) (y - 1) ∨ Hp r (x - 1) (y + 1)) ∨ (Hp r (x + 1) (y - 1) ∨ Hp r (x + 1) (y + 1))))) ∧ bt (l y) x = true := by
  unfold v0
  have h2 : rp r y = rwZ r ((y : Int) + 1) := rwZ_p hy
  rw [b_and, b_or, Bool.and_eq_true, Bool.or_eq_true, rm_Z hy, h2, tch_bt (hb_or (hb_rwZ hr) (hb_rwZ hr)) hx, rb_or, rb_or, rb_or, rb_rwZ, rb_rwZ, rb_rwZ, rb_rwZ, rb_rwZ, rb_rwZ]
/-- a bit that is near one of r -/
theorem v0_nb (hr : ∀ y, y < 16 → hb (r y)) {x y : Nat} (hx : x < 16) (hy : y < 16) (h : bt (v0 l r y b) x = true) : ∃ u, u < 256 ∧ bx r u = true ∧ nbr b u (16 * y + x) := by
  have h1 := (v0_bt hr hx hy).mp h
  have key : ∀ (a c : Int), Hp r a c → (-1 ≤ a - x ∧ a - x ≤ 1) → (-1 ≤ c - y ∧ c - y ≤ 1) → (b = true ∨ a = x ∨ c = y) → ∃ u, u < 256 ∧ bx r u = true ∧ nbr b u (16 * y + x) := by
    intro a c hH ha hc hb'
    refine ⟨16 * c.toNat + a.toNat, ?_, H_bx hH, ?_⟩
    · have := hH.1; have := hH.2.1; omega
    · have g1 := hH.1
      have g2 := hH.2.1
      refine ⟨⟨by omega, by omega⟩, ⟨by omega, by omega⟩, ?_⟩
      rcases hb' with q | q | q
      · exact Or.inl q
      · exact Or.inr (Or.inl (by omega))
      · exact Or.inr (Or.inr (by omega))
  rcases h1.1 with q | (q | q) | ⟨hb', (q | q) | (q | q)⟩
  · exact key x y ((Hp_n hx hy).mpr q) (by omega) (by omega) (Or.inr (Or.inl rfl))
  · exact key _ _ q (by omega) (by omega) (Or.inr (Or.inl rfl))
  · exact key _ _ q (by omega) (by omega) (Or.inr (Or.inl rfl))
  · exact key _ _ q (by omega) (by omega) (Or.inl hb')
  · exact key _ _ q (by omega) (by omega) (Or.inl hb')
  · exact key _ _ q (by omega) (by omega) (Or.inl hb')
  · exact key _ _ q (by omega) (by omega) (Or.inl hb')
theorem wid_in {m : Int32} (hm : hb m) {Q : Nat → Prop} (hQ : ∀ x x', x < 16 → x' < 16 → Q x → bt m x' = true → (x' = x + 1 ∨ x = x' + 1) → Q x') : ∀ n v, hb v → (∀ x, x < 16 → bt v x = true → Q x) → hb (wid m n v) ∧ ∀ x, x < 16 → bt (wid m n v) x = true → Q x := by
  intro n
  induction n with
  | zero => intro v hv h; exact ⟨hv, h⟩
  | succ n ih =>
    intro v hv h
    show hb (if gr1 v &&& m = v then v else wid m n (gr1 v &&& m)) ∧ ∀ x, x < 16 → bt (if gr1 v &&& m = v then v else wid m n (gr1 v &&& m)) x = true → Q x
    split
    · exact ⟨hv, h⟩
    · refine ih _ (hb_and hm) (fun x hx hq => ?_)
      rw [b_and, Bool.and_eq_true, rb_gr hv hx] at hq
      obtain ⟨q | q | q, hmx⟩ := hq
      · have z := q.2
        rw [show ((x : Int) - 1).toNat = x - 1 by omega] at z
        have := q.1
        exact hQ (x - 1) x (by omega) hx (h _ (by omega) z) hmx (by omega)
      · exact h x hx ((rb_n hx).mp q)
      · have z := q.2
        rw [show ((x : Int) + 1).toNat = x + 1 by omega] at z
        have := q.1
        exact hQ (x + 1) x (by omega) hx (h _ (by omega) z) hmx (by omega)
theorem wid_sup {m : Int32} (hm : hb m) : ∀ n v, hb v → (∀ x, x < 16 → bt v x = true → bt m x = true) → ∀ x, x < 16 → bt v x = true → bt (wid m n v) x = true := by
  intro n
  induction n with
  | zero => intro v _ _ x _ h; exact h
  | succ n ih =>
    intro v hv hvm x hx h
    show bt (if gr1 v &&& m = v then v else wid m n (gr1 v &&& m)) x = true
    split
    · exact h
    · refine ih _ (hb_and hm) (fun x _ hq => ?_) x hx ?_
      · rw [b_and, Bool.and_eq_true] at hq; exact hq.2
      · rw [b_and, Bool.and_eq_true, rb_gr hv hx]
        exact ⟨Or.inr (Or.inl ((rb_n hx).mpr h)), hvm x hx h⟩
theorem hb_ext {v w : Int32} (h1 : hb v) (h2 : hb w) (h : ∀ x, x < 16 → bt v x = bt w x) : v = w := by
  apply b_ext
  intro i hi
  by_cases h16 : i < 16
  · exact h i h16
  · rw [h1 i (by omega), h2 i (by omega)]
/-- a row that does not widen is whole -/
theorem wid_fix {m v : Int32} (hm : hb m) (hv : hb v) (hvm : ∀ x, x < 16 → bt v x = true → bt m x = true) (h : ∀ x, x < 16 → bt (wid m 16 v) x = true → bt v x = true) : ∀ x x', x < 16 → x' < 16 → bt v x = true → bt m x' = true → (x' = x + 1 ∨ x = x' + 1) → bt v x' = true := by
  intro x x' hx hx' h1 h2 h3
  have e1 : bt (gr1 v &&& m) x' = true := by
    rw [b_and, Bool.and_eq_true, rb_gr hv hx']
    refine ⟨?_, h2⟩
    rcases h3 with h3 | h3
    · left; exact ⟨by omega, by rw [show ((x' : Int) - 1).toNat = x by omega]; exact h1⟩
    · right; right; exact ⟨by omega, by rw [show ((x' : Int) + 1).toNat = x by omega]; exact h1⟩
  have e2 : wid m 16 v = if gr1 v &&& m = v then v else wid m 15 (gr1 v &&& m) := rfl
  by_cases hq : gr1 v &&& m = v
  · rw [hq] at e1; exact e1
  · rw [if_neg hq] at e2
    refine h x' hx' ?_
    rw [e2]
    refine wid_sup hm 15 _ (hb_and hm) (fun x _ hz => ?_) x' hx' e1
    rw [b_and, Bool.and_eq_true] at hz
    exact hz.2
/-- one row's spreading -/
def SB (l r : Nat → Int32) : Prop := (∀ y, y < 16 → hb (r y)) ∧ ∀ i, i < 256 → bx r i = true → bx l i = true
theorem a65 {v : Int32} (h : hb v) : v &&& 65535 = v := by
  apply b_ext
  intro i hi
  rw [b_and, b_65535]
  by_cases h16 : i < 16
  · rw [decide_eq_true h16, Bool.and_true]
  · rw [decide_eq_false h16, Bool.and_false, h i (by omega)]
theorem bxy {r : Nat → Int32} {x y : Nat} (hx : x < 16) : bx r (16 * y + x) = bt (r y) x := by
  unfold bx
  rw [show (16 * y + x) / 16 = y by omega, show (16 * y + x) % 16 = x by omega]
theorem v0_r (hr : ∀ y, y < 16 → hb (r y)) (hs : SB l r) {x y : Nat} (hx : x < 16) (hy : y < 16) (h : bt (r y) x = true) : bt (v0 l r y b) x = true := by
  rw [v0_bt hr hx hy]
  refine ⟨Or.inl h, ?_⟩
  have := hs.2 (16 * y + x) (by omega) (by rw [bxy hx]; exact h)
  rw [bxy hx] at this
  exact this
theorem v0_l {x y : Nat} (h : bt (v0 l r y b) x = true) : bt (l y) x = true := by
  unfold v0 at h
  rw [b_and, Bool.and_eq_true] at h
  exact h.2
theorem nv_facts (hl : ∀ y, y < 16 → hb (l y)) (hs : SB l r) {y : Nat} (hy : y < 16) : hb (nv l r y b) ∧ (∀ x, x < 16 → bt (r y) x = true → bt (nv l r y b) x = true) ∧ (∀ x, x < 16 → bt (nv l r y b) x = true → bt (l y) x = true) ∧ ∀ x, x < 16 → bt (nv l r y b) x = true → ∃ u, u < 256 ∧ bx r u = true ∧ Rch (bx l) b u (16 * y + x) := by
  have hv : hb (v0 l r y b) := hb_and (hl y hy)
  have h1 := wid_in (hl y hy) (Q := fun x => bt (l y) x = true ∧ ∃ u, u < 256 ∧ bx r u = true ∧ Rch (bx l) b u (16 * y + x)) (by
    intro x x' hx hx' ⟨q1, u, q2, q3, q4⟩ hm hxx
    refine ⟨hm, u, q2, q3, Rch_s q4 (by omega) (by omega) (by rw [bxy hx']; exact hm) ?_⟩
    refine ⟨⟨by omega, by omega⟩, ⟨by omega, by omega⟩, Or.inr (Or.inr (by omega))⟩) 16 (v0 l r y b) hv (by
    intro x hx hq
    have hlx : bt (l y) x = true := v0_l hq
    obtain ⟨u, u1, u2, u3⟩ := v0_nb hs.1 hx hy hq
    exact ⟨hlx, u, u1, u2, Rch_s Rch_0 u1 (by omega) (by rw [bxy hx]; exact hlx) u3⟩)
  refine ⟨h1.1, fun x hx hq => ?_, fun x hx hq => (h1.2 x hx hq).1, fun x hx hq => (h1.2 x hx hq).2⟩
  exact wid_sup (hl y hy) 16 _ hv (fun x hx hz => v0_l hz) x hx (v0_r hs.1 hs hx hy hq)
def GD (l r0 r : Nat → Int32) (b : Bool) : Prop := SB l r ∧ (∀ i, i < 256 → bx r0 i = true → bx r i = true) ∧ ∀ i, i < 256 → bx r i = true → ∃ u, u < 256 ∧ bx r0 u = true ∧ Rch (bx l) b u i
theorem GD_0 (hs : SB l r) : GD l r r b := ⟨hs, fun _ _ h => h, fun i hi h => ⟨i, hi, h, Rch_0⟩⟩
theorem bx_upd {r : Nat → Int32} {y i : Nat} {v : Int32} (hi : i < 256) : bx (upd r y v) i = if i / 16 = y then bt v (i % 16) else bx r i := by
  unfold bx upd
  split <;> rfl
theorem sp1_GD (hl : ∀ y, y < 16 → hb (l y)) {r0 : Nat → Int32} {s : (Nat → Int32) × Int32} {y : Nat} (hy : y < 16) (h : GD l r0 s.1 b) : GD l r0 (sp1 l b s y).1 b ∧ (∀ i, i < 256 → bx s.1 i = true → bx (sp1 l b s y).1 i = true) := by
  obtain ⟨hs, h1, h2⟩ := h
  obtain ⟨n1, n2, n3, n4⟩ := nv_facts (b := b) hl hs hy
  have e1 : (sp1 l b s y).1 = upd s.1 y (nv l s.1 y b) := by
    show upd s.1 y (nv l s.1 y b &&& 65535) = _
    rw [a65 n1]
  rw [e1]
  have hup : ∀ i, i < 256 → bx s.1 i = true → bx (upd s.1 y (nv l s.1 y b)) i = true := by
    intro i hi hq
    rw [bx_upd hi]
    split
    · rename_i hz
      refine n2 _ (by omega) ?_
      unfold bx at hq
      rw [hz] at hq
      exact hq
    · exact hq
  refine ⟨⟨⟨fun z hz => ?_, fun i hi hq => ?_⟩, fun i hi hq => hup i hi (h1 i hi hq), fun i hi hq => ?_⟩, hup⟩
  · by_cases hzy : z = y
    · rw [hzy, upd_e]; exact n1
    · rw [upd_n hzy]; exact hs.1 z hz
  · rw [bx_upd hi] at hq
    split at hq
    · rename_i hz
      have := n3 _ (by omega) hq
      unfold bx
      rw [hz]
      exact this
    · exact hs.2 i hi hq
  · rw [bx_upd hi] at hq
    split at hq
    · rename_i hz
      obtain ⟨u, u1, u2, u3⟩ := n4 _ (by omega) hq
      obtain ⟨w, w1, w2, w3⟩ := h2 u u1 u2
      refine ⟨w, w1, w2, Rch_t w3 ?_⟩
      rw [show 16 * y + i % 16 = i by omega] at u3
      exact u3
    · exact h2 i hi hq
theorem upP_GD (hl : ∀ y, y < 16 → hb (l y)) {r0 : Nat → Int32} : ∀ k y (s : (Nat → Int32) × Int32), y + k ≤ 16 → GD l r0 s.1 b → GD l r0 (upP l b k y s).1 b ∧ (∀ i, i < 256 → bx s.1 i = true → bx (upP l b k y s).1 i = true) := by
  intro k
  induction k with
  | zero => intro y s _ h; exact ⟨h, fun _ _ q => q⟩
  | succ k ih =>
    intro y s hy h
    have h1 := sp1_GD hl (y := y) (by omega) h
    have h2 := ih (y + 1) (sp1 l b s y) (by omega) h1.1
    exact ⟨h2.1, fun i hi q => h2.2 i hi (h1.2 i hi q)⟩
theorem dnP_GD (hl : ∀ y, y < 16 → hb (l y)) {r0 : Nat → Int32} : ∀ k (s : (Nat → Int32) × Int32), k ≤ 16 → GD l r0 s.1 b → GD l r0 (dnP l b k s).1 b ∧ (∀ i, i < 256 → bx s.1 i = true → bx (dnP l b k s).1 i = true) := by
  intro k
  induction k with
  | zero => intro s _ h; exact ⟨h, fun _ _ q => q⟩
  | succ k ih =>
    intro s hy h
    have h1 := sp1_GD hl (y := k) (by omega) h
    have h2 := ih (sp1 l b s k) (by omega) h1.1
    exact ⟨h2.1, fun i hi q => h2.2 i hi (h1.2 i hi q)⟩
theorem pass_GD (hl : ∀ y, y < 16 → hb (l y)) {r0 r : Nat → Int32} (h : GD l r0 r b) : GD l r0 (pass l b r).1 b ∧ (∀ i, i < 256 → bx r i = true → bx (pass l b r).1 i = true) := by
  have h1 := upP_GD hl 16 0 (r, nI 0) (by omega) h
  have h2 := dnP_GD hl 16 (upP l b 16 0 (r, nI 0)) (by omega) h1.1
  exact ⟨h2.1, fun i hi q => h2.2 i hi (h1.2 i hi q)⟩
theorem zor {m : Int32} {c : Bool} (h : m ||| zb c = 0) : m = 0 ∧ c = false := by
  have h1 : ∀ i, i < 32 → bt m i = false ∧ bt (zb c) i = false := by
    intro i hi
    have : bt (m ||| zb c) i = false := by rw [h]; exact b_0 i
    rw [b_or, Bool.or_eq_false_iff] at this
    exact this
  refine ⟨b_ext (fun i hi => by rw [(h1 i hi).1, b_0]), ?_⟩
  have := (h1 0 (by decide)).2
  cases c
  · rfl
  · exact absurd this (by decide)
/-- a pass that says that nothing changed has changed nothing -/
theorem upP_0 : ∀ k y (s : (Nat → Int32) × Int32), (upP l b k y s).2 = 0 → (s.2 = 0 ∧ (∀ z, y ≤ z → z < y + k → nv l s.1 z b = s.1 z)) ∨ ¬ (∀ z, z < 16 → hb (s.1 z)) ∨ 16 < y + k := by
  intro k
  induction k with
  | zero => intro y s h; exact Or.inl ⟨h, fun z h1 h2 => by omega⟩
  | succ k ih =>
    intro y s h
    by_cases hy : 16 < y + (k + 1)
    · exact Or.inr (Or.inr hy)
    · by_cases hb' : ∀ z, z < 16 → hb (s.1 z)
      · rcases ih (y + 1) (sp1 l b s y) h with ⟨h1, h2⟩ | h1 | h1
        · obtain ⟨g1, g2⟩ := zor h1
          have g3 : nv l s.1 y b = s.1 y := Decidable.not_not.mp (of_decide_eq_false g2)
          have g4 : (sp1 l b s y).1 = s.1 := by
            show upd s.1 y (nv l s.1 y b &&& 65535) = s.1
            rw [g3, a65 (hb' y (by omega))]
            exact upd_sf rfl
          refine Or.inl ⟨g1, fun z z1 z2 => ?_⟩
          by_cases hz : z = y
          · rw [hz]; exact g3
          · have := h2 z (by omega) (by omega)
            rw [g4] at this
            exact this
        · exfalso
          apply h1
          intro z hz
          show hb (upd s.1 y (nv l s.1 y b &&& 65535) z)
          by_cases hzy : z = y
          · rw [hzy, upd_e]
            intro i hi
            rw [b_and, b_65535, decide_eq_false (by omega), Bool.and_false]
          · rw [upd_n hzy]; exact hb' z hz
        · omega
      · exact Or.inr (Or.inl hb')
theorem dnP_0 : ∀ k (s : (Nat → Int32) × Int32), (dnP l b k s).2 = 0 → s.2 = 0 := by
  intro k
  induction k with
  | zero => intro s h; exact h
  | succ k ih => intro s h; exact (zor (ih (sp1 l b s k) h)).1
theorem dnP_1 : ∀ k (s : (Nat → Int32) × Int32), k ≤ 16 → (∀ z, z < 16 → hb (s.1 z)) → (dnP l b k s).2 = 0 → (dnP l b k s).1 = s.1 := by
  intro k
  induction k with
  | zero => intro s _ _ _; rfl
  | succ k ih =>
    intro s hk hb' h
    have h1 : (sp1 l b s k).2 = 0 := dnP_0 k _ h
    obtain ⟨g1, g2⟩ := zor h1
    have g3 : nv l s.1 k b = s.1 k := Decidable.not_not.mp (of_decide_eq_false g2)
    have g4 : (sp1 l b s k).1 = s.1 := by
      show upd s.1 k (nv l s.1 k b &&& 65535) = s.1
      rw [g3, a65 (hb' k (by omega))]
      exact upd_sf rfl
    have h2 := ih (sp1 l b s k) (by omega) (by rw [g4]; exact hb') h
    show (dnP l b k (sp1 l b s k)).1 = s.1
    rw [h2, g4]
theorem upP_1 : ∀ k y (s : (Nat → Int32) × Int32), y + k ≤ 16 → (∀ z, z < 16 → hb (s.1 z)) → (upP l b k y s).2 = 0 → (upP l b k y s).1 = s.1 := by
  intro k
  induction k with
  | zero => intro y s _ _ _; rfl
  | succ k ih =>
    intro y s hk hb' h
    rcases upP_0 (k + 1) y s h with ⟨h1, h2⟩ | h1 | h1
    · have g3 := h2 y (by omega) (by omega)
      have g4 : (sp1 l b s y).1 = s.1 := by
        show upd s.1 y (nv l s.1 y b &&& 65535) = s.1
        rw [g3, a65 (hb' y (by omega))]
        exact upd_sf rfl
      have h3 := ih (y + 1) (sp1 l b s y) (by omega) (by rw [g4]; exact hb') h
      show (upP l b k (y + 1) (sp1 l b s y)).1 = s.1
      rw [h3, g4]
    · exact absurd hb' h1
    · omega
theorem pass_0 {r : Nat → Int32} (hb' : ∀ z, z < 16 → hb (r z)) (h : (pass l b r).2 = 0) : (pass l b r).1 = r ∧ ∀ z, z < 16 → nv l r z b = r z := by
  have h1 := dnP_0 16 _ h
  have h2 := upP_1 16 0 (r, nI 0) (by omega) hb' h1
  refine ⟨?_, ?_⟩
  · have h3 := dnP_1 16 (upP l b 16 0 (r, nI 0)) (by omega) (by rw [h2]; exact hb') h
    show (dnP l b 16 (upP l b 16 0 (r, nI 0))).1 = r
    rw [h3, h2]
  · rcases upP_0 16 0 (r, nI 0) h1 with ⟨-, h4⟩ | h4 | h4
    · exact fun z hz => h4 z (by omega) (by omega)
    · exact absurd hb' h4
    · omega
/-- a flood that is over is closed -/
theorem fix_cl (hl : ∀ y, y < 16 → hb (l y)) (hs : SB l r) (h : ∀ z, z < 16 → nv l r z b = r z) : ∀ u v, u < 256 → v < 256 → bx r u = true → bx l v = true → nbr b u v → bx r v = true := by
  intro u v hu hv h1 h2 h3
  have hvy : v / 16 < 16 := by omega
  have hvx : v % 16 < 16 := by omega
  have hnv := h (v / 16) hvy
  have hv0 : hb (v0 l r (v / 16) b) := hb_and (hl _ hvy)
  -- v0 of the row is the row
  have e0 : ∀ x, x < 16 → bt (v0 l r (v / 16) b) x = true → bt (r (v / 16)) x = true := by
    intro x hx hq
    have := wid_sup (hl _ hvy) 16 _ hv0 (fun x hx hz => v0_l hz) x hx hq
    rw [← hnv]
    exact this
  have e1 : v0 l r (v / 16) b = r (v / 16) := hb_ext hv0 (hs.1 _ hvy) (fun x hx => Bool.eq_iff_iff.mpr ⟨e0 x hx, fun q => v0_r hs.1 hs hx hvy q⟩)
  obtain ⟨⟨a1, a2⟩, ⟨a3, a4⟩, a5⟩ := h3
  show bt (r (v / 16)) (v % 16) = true
  by_cases hrow : u / 16 = v / 16
  · by_cases hcol : u % 16 = v % 16
    · unfold bx at h1
      rw [hrow, hcol] at h1
      exact h1
    · refine wid_fix (hl _ hvy) (hs.1 _ hvy) (fun x hx hq => ?_) (fun x hx hq => ?_) (u % 16) (v % 16) (by omega) hvx (by unfold bx at h1; rw [hrow] at h1; exact h1) h2 (by omega)
      · have := hs.2 (16 * (v / 16) + x) (by omega) (by rw [bxy hx]; exact hq)
        rw [bxy hx] at this
        exact this
      · have e2 : wid (l (v / 16)) 16 (r (v / 16)) = r (v / 16) := by
          have : wid (l (v / 16)) 16 (v0 l r (v / 16) b) = r (v / 16) := hnv
          rw [e1] at this
          exact this
        rw [e2] at hq
        exact hq
  · refine e0 _ hvx ?_
    rw [v0_bt hs.1 hvx hvy]
    refine ⟨Or.inr ?_, h2⟩
    have hH : Hp r ((u % 16 : Nat) : Int) ((u / 16 : Nat) : Int) := (bx_H hu).mp h1
    have hy : (((u / 16 : Nat) : Int) = ((v / 16 : Nat) : Int) - 1) ∨ (((u / 16 : Nat) : Int) = ((v / 16 : Nat) : Int) + 1) := by omega
    have hx : (((u % 16 : Nat) : Int) = ((v % 16 : Nat) : Int)) ∨ (b = true ∧ ((((u % 16 : Nat) : Int) = ((v % 16 : Nat) : Int) - 1) ∨ (((u % 16 : Nat) : Int) = ((v % 16 : Nat) : Int) + 1))) := by
      rcases a5 with q | q | q
      · by_cases hc : u % 16 = v % 16
        · exact Or.inl (by omega)
        · exact Or.inr ⟨q, by omega⟩
      · exact Or.inl (by omega)
      · exact absurd q hrow
    rcases hx with hx | ⟨hb', hx | hx⟩ <;> rcases hy with hy | hy <;> rw [hx, hy] at hH
    · exact Or.inl (Or.inl hH)
    · exact Or.inl (Or.inr hH)
    · exact Or.inr ⟨hb', Or.inl (Or.inl hH)⟩
    · exact Or.inr ⟨hb', Or.inl (Or.inr hH)⟩
    · exact Or.inr ⟨hb', Or.inr (Or.inl hH)⟩
    · exact Or.inr ⟨hb', Or.inr (Or.inr hH)⟩
theorem cnr_mn {a c : Nat → Bool} : ∀ j i, (∀ k, i ≤ k → k < i + j → a k = true → c k = true) → cnr a j i ≤ cnr c j i := by
  intro j
  induction j with
  | zero => intro i _; exact Nat.le_refl _
  | succ j ih =>
    intro i h
    have h0 := h i (by omega) (by omega)
    have h1 := ih (i + 1) (fun k h1 h2 => h k (by omega) (by omega))
    show (if a i = true then 1 else 0) + cnr a j (i + 1) ≤ (if c i = true then 1 else 0) + cnr c j (i + 1)
    by_cases ha : a i = true
    · rw [if_pos ha, if_pos (h0 ha)]; omega
    · rw [if_neg ha]; split <;> omega
theorem cnr_ms {a c : Nat → Bool} : ∀ j i, (∀ k, i ≤ k → k < i + j → a k = true → c k = true) → (∃ k, i ≤ k ∧ k < i + j ∧ c k = true ∧ ¬ a k = true) → cnr a j i < cnr c j i := by
  intro j
  induction j with
  | zero => intro i _ ⟨k, h1, h2, _⟩; omega
  | succ j ih =>
    intro i h ⟨k, k1, k2, k3, k4⟩
    have h0 := h i (by omega) (by omega)
    show (if a i = true then 1 else 0) + cnr a j (i + 1) < (if c i = true then 1 else 0) + cnr c j (i + 1)
    by_cases hk : k = i
    · rw [hk] at k3 k4
      rw [if_neg k4, if_pos k3]
      have := cnr_mn j (i + 1) (fun k h1 h2 => h k (by omega) (by omega))
      omega
    · have h1 := ih (i + 1) (fun k h1 h2 => h k (by omega) (by omega)) ⟨k, by omega, by omega, k3, k4⟩
      by_cases ha : a i = true
      · rw [if_pos ha, if_pos (h0 ha)]; omega
      · rw [if_neg ha]; split <;> omega
theorem cnr_0 {a : Nat → Bool} : ∀ j i, cnr a j i = 0 → ∀ k, i ≤ k → k < i + j → a k = false := by
  intro j
  induction j with
  | zero => intro i _ k h1 h2; omega
  | succ j ih =>
    intro i h k h1 h2
    have h : (if a i = true then 1 else 0) + cnr a j (i + 1) = 0 := h
    by_cases ha : a i = true
    · rw [if_pos ha] at h; omega
    · by_cases hk : k = i
      · rw [hk]; exact Bool.eq_false_iff.mpr ha
      · exact ih (i + 1) (by omega) k (by omega) (by omega)
/-- a row's bits, by the rows -/
theorem rows_ext {r r' : Nat → Int32} (h1 : ∀ y, y < 16 → hb (r y)) (h2 : ∀ y, y < 16 → hb (r' y)) (h : ∀ i, i < 256 → bx r i = bx r' i) : ∀ y, y < 16 → r y = r' y := by
  intro y hy
  refine hb_ext (h1 y hy) (h2 y hy) (fun x hx => ?_)
  have := h (16 * y + x) (by omega)
  rw [bxy hx, bxy hx] at this
  exact this
/-- a pass that has changed nothing says so -/
theorem sp1_2 {s : (Nat → Int32) × Int32} {y : Nat} (h1 : hb (nv l s.1 y b)) (hs : s.2 = 0) (h : (sp1 l b s y).1 y = s.1 y) : (sp1 l b s y).2 = 0 := by
  have h : upd s.1 y (nv l s.1 y b &&& 65535) y = s.1 y := h
  rw [upd_e, a65 h1] at h
  show s.2 ||| zb (decide (¬ nv l s.1 y b = s.1 y)) = 0
  rw [decide_eq_false (fun q => q h), hs]
  rfl
theorem upP_s (hl : ∀ y, y < 16 → hb (l y)) {r0 : Nat → Int32} : ∀ k y (s : (Nat → Int32) × Int32), y + k ≤ 16 → GD l r0 s.1 b → s.2 = 0 → (∀ i, i < 256 → bx (upP l b k y s).1 i = true → bx s.1 i = true) → (upP l b k y s).2 = 0 := by
  intro k
  induction k with
  | zero => intro y s _ _ hs _; exact hs
  | succ k ih =>
    intro y s hy h hs hsm
    have h1 := sp1_GD hl (y := y) (by omega) h
    have h2 := upP_GD hl k (y + 1) (sp1 l b s y) (by omega) h1.1
    have hrow : (sp1 l b s y).1 y = s.1 y := rows_ext h1.1.1.1 h.1.1 (fun i hi => Bool.eq_iff_iff.mpr ⟨fun q => hsm i hi (h2.2 i hi q), h1.2 i hi⟩) y (by omega)
    refine ih (y + 1) (sp1 l b s y) (by omega) h1.1 (sp1_2 (nv_facts hl h.1 (by omega)).1 hs hrow) (fun i hi q => h1.2 i hi (hsm i hi q))
theorem dnP_s (hl : ∀ y, y < 16 → hb (l y)) {r0 : Nat → Int32} : ∀ k (s : (Nat → Int32) × Int32), k ≤ 16 → GD l r0 s.1 b → s.2 = 0 → (∀ i, i < 256 → bx (dnP l b k s).1 i = true → bx s.1 i = true) → (dnP l b k s).2 = 0 := by
  intro k
  induction k with
  | zero => intro s _ _ hs _; exact hs
  | succ k ih =>
    intro s hy h hs hsm
    have h1 := sp1_GD hl (y := k) (by omega) h
    have h2 := dnP_GD hl k (sp1 l b s k) (by omega) h1.1
    have hrow : (sp1 l b s k).1 k = s.1 k := rows_ext h1.1.1.1 h.1.1 (fun i hi => Bool.eq_iff_iff.mpr ⟨fun q => hsm i hi (h2.2 i hi q), h1.2 i hi⟩) k (by omega)
    refine ih (sp1 l b s k) (by omega) h1.1 (sp1_2 (nv_facts hl h.1 (by omega)).1 hs hrow) (fun i hi q => h1.2 i hi (hsm i hi q))
theorem pass_same (hl : ∀ y, y < 16 → hb (l y)) {r0 r : Nat → Int32} (h : GD l r0 r b) (hsm : ∀ i, i < 256 → bx r i = bx (pass l b r).1 i) : (pass l b r).2 = 0 := by
  have h1 := upP_GD hl 16 0 (r, nI 0) (by omega) h
  have h2 := dnP_GD hl 16 (upP l b 16 0 (r, nI 0)) (by omega) h1.1
  have h3 := upP_s hl 16 0 (r, nI 0) (by omega) h rfl (fun i hi q => (hsm i hi).trans (h2.2 i hi q))
  exact dnP_s hl 16 _ (by omega) h1.1 h3 (fun i hi q => h1.2 i hi ((hsm i hi).trans q))
theorem fld_GD (hl : ∀ y, y < 16 → hb (l y)) {r0 : Nat → Int32} : ∀ k r m, GD l r0 r b → GD l r0 (fld l b k r m) b := by
  intro k
  induction k with
  | zero => intro r m h; exact h
  | succ k ih =>
    intro r m h
    show GD l r0 (if m = 0 then r else fld l b k (pass l b r).1 (pass l b r).2) b
    split
    · exact h
    · exact ih _ _ (pass_GD hl h).1
theorem fld_cl (hl : ∀ y, y < 16 → hb (l y)) {r0 : Nat → Int32} : ∀ k r m, GD l r0 r b → 256 < k + cnr (bx r) 256 0 → (m = 0 → ∀ z, z < 16 → nv l r z b = r z) → ∀ z, z < 16 → nv l (fld l b k r m) z b = fld l b k r m z := by
  intro k
  induction k with
  | zero => intro r m h h1; have := cnr_le (g := bx r) 256 0; omega
  | succ k ih =>
    intro r m h h1 h2
    by_cases hm : m = 0
    · have e : fld l b (k + 1) r m = r := if_pos hm
      rw [e]
      exact h2 hm
    · have e : fld l b (k + 1) r m = fld l b k (pass l b r).1 (pass l b r).2 := if_neg hm
      rw [e]
      have hp := pass_GD hl h
      by_cases hch : (pass l b r).2 = 0
      · have h0 := pass_0 h.1.1 hch
        have e2 : fld l b k (pass l b r).1 (pass l b r).2 = r := by
          rw [hch, h0.1]
          cases k with
          | zero => rfl
          | succ k => exact if_pos rfl
        rw [e2]
        exact h0.2
      · refine ih _ _ hp.1 ?_ (fun q => absurd q hch)
        have : cnr (bx r) 256 0 < cnr (bx (pass l b r).1) 256 0 := by
          refine cnr_ms 256 0 (fun k _ hk q => hp.2 k (by omega) q) ?_
          refine Classical.byContradiction (fun hno => hch ?_)
          have hsame : ∀ i, i < 256 → bx r i = bx (pass l b r).1 i := fun i hi => Bool.eq_iff_iff.mpr ⟨hp.2 i hi, fun q => Classical.byContradiction (fun z => hno ⟨i, by omega, by omega, q, z⟩)⟩
          exact pass_same hl h hsame
        omega
/-- what a flood reaches -/
theorem fld_spec (hl : ∀ y, y < 16 → hb (l y)) (hs : SB l r) : SB l (fld l b 256 r (nI 1)) ∧ ∀ c, c < 256 → (bx (fld l b 256 r (nI 1)) c = true ↔ ∃ a, a < 256 ∧ bx r a = true ∧ Rch (bx l) b a c) := by
  have hG := fld_GD hl 256 r (nI 1) (GD_0 (b := b) hs)
  refine ⟨hG.1, fun c hc => ⟨fun q => hG.2.2 c hc q, fun ⟨a, ha, hra, hR⟩ => ?_⟩⟩
  have hpos : 0 < cnr (bx r) 256 0 := by
    refine Nat.pos_of_ne_zero (fun q => ?_)
    have := cnr_0 256 0 q a (by omega) (by omega)
    rw [this] at hra
    exact absurd hra (by decide)
  have hcl := fix_cl hl hG.1 (fld_cl hl 256 r (nI 1) (GD_0 (b := b) hs) (by omega) (fun q => absurd q (by decide)))
  have hla := hs.2 a ha hra
  exact (hR (fun z => z < 256 ∧ bx (fld l b 256 r (nI 1)) z = true) ⟨ha, hG.2.1 a ha hra⟩ (fun u v hu hu2 hv hgv hn => ⟨hv, hcl u v hu2 hv hu.2 hgv hn⟩)).2
end P57
