/-! ===== the pieces ===== -/
theorem goR_in {g c : Nat → Bool} : ∀ k e t, e ≤ t → t < goR g c k e → g t = true ∧ c t = false := by
  intro k
  induction k with
  | zero => intro e t h1 h2; have h2 : t < e := h2; omega
  | succ k ih =>
    intro e t h1 h2
    by_cases h : g e = true ∧ c e = false
    · have e1 : goR g c (k + 1) e = goR g c k (e + 1) := if_pos h
      rw [e1] at h2
      by_cases hq : t = e
      · rw [hq]; exact h
      · exact ih (e + 1) t (by omega) h2
    · have e1 : goR g c (k + 1) e = e := if_neg h
      rw [e1] at h2; omega
section P71a
variable {f : Nat → Int32} {q : QS} {U : Nat → Int32}
def MU (f : Nat → Int32) (q : QS) (U : Nat → Int32) : Prop := (∀ y x, y < 16 → x < 16 → bt (U y) x = true → bt (f y) x = true) ∧ (∀ y x, y < 16 → 1 ≤ x ∧ x ≤ 15 → OH f q y x → (bt (U y) (x - 1) = true ↔ bt (U y) x = true)) ∧ ∀ y x, 1 ≤ y ∧ y ≤ 15 → x < 16 → OV f q y x → (bt (U (y - 1)) x = true ↔ bt (U y) x = true)
theorem goR_U (h : MU f q U) {y : Nat} (hy : y < 16) : ∀ k e, e + k ≤ 16 → 1 ≤ e → bt (U y) (e - 1) = true → goR (bt (U y)) (bt (q.2.1 y)) k e = goR (bt (f y)) (bt (q.2.1 y)) k e := by
  intro k
  induction k with
  | zero => intro e _ _ _; rfl
  | succ k ih =>
    intro e h1 h2 h3
    show (if bt (U y) e = true ∧ bt (q.2.1 y) e = false then goR (bt (U y)) (bt (q.2.1 y)) k (e + 1) else e) = (if bt (f y) e = true ∧ bt (q.2.1 y) e = false then goR (bt (f y)) (bt (q.2.1 y)) k (e + 1) else e)
    by_cases hq : bt (f y) e = true ∧ bt (q.2.1 y) e = false
    · have hU : bt (U y) e = true := (h.2.1 y e hy (by omega) ⟨⟨h.1 y (e - 1) hy (by omega) h3, hq.1⟩, by show ¬ bt (q.2.1 y) e = true; rw [hq.2]; decide⟩).mp h3
      rw [if_pos hq, if_pos ⟨hU, hq.2⟩]
      exact ih (e + 1) (by omega) (by omega) (by rw [Nat.add_sub_cancel]; exact hU)
    · rw [if_neg hq, if_neg (fun z => hq ⟨h.1 y e hy (by omega) z.1, z.2⟩)]
theorem goR_V (h : MU f q U) {x : Nat} (hx : x < 16) : ∀ k e, e + k ≤ 16 → 1 ≤ e → bt (U (e - 1)) x = true → goR (fun e => bt (U e) x) (fun e => bt (q.1 e) x) k e = goR (fun e => bt (f e) x) (fun e => bt (q.1 e) x) k e := by
  intro k
  induction k with
  | zero => intro e _ _ _; rfl
  | succ k ih =>
    intro e h1 h2 h3
    show (if bt (U e) x = true ∧ bt (q.1 e) x = false then goR (fun e => bt (U e) x) (fun e => bt (q.1 e) x) k (e + 1) else e) = (if bt (f e) x = true ∧ bt (q.1 e) x = false then goR (fun e => bt (f e) x) (fun e => bt (q.1 e) x) k (e + 1) else e)
    by_cases hq : bt (f e) x = true ∧ bt (q.1 e) x = false
    · have hU : bt (U e) x = true := (h.2.2 e x (by omega) hx ⟨⟨h.1 (e - 1) x (by omega) hx h3, hq.1⟩, by show ¬ bt (q.1 e) x = true; rw [hq.2]; decide⟩).mp h3
      rw [if_pos hq, if_pos ⟨hU, hq.2⟩]
      exact ih (e + 1) (by omega) (by omega) (by rw [Nat.add_sub_cancel]; exact hU)
    · rw [if_neg hq, if_neg (fun z => hq ⟨h.1 e x (by omega) hx z.1, z.2⟩)]
def bef (U : Nat → Int32) (k : Nat) : Prop := ∀ y x, y < 16 → x < 16 → 16 * y + x < k → bt (U y) x = false
def inR (x y W H c r : Nat) : Prop := (x ≤ c ∧ c < W) ∧ y ≤ r ∧ r < H
theorem rect_all (hL : LPr f q) (h : MU f q U) {x y W H : Nat} (hx : x < 16) (hy : y < 16) (hU : bt (U y) x = true) (hb' : bef U (16 * y + x)) (hW : W = goR (bt (f y)) (bt (q.2.1 y)) (15 - x) (x + 1)) (hH : H = goR (fun e => bt (f e) x) (fun e => bt (q.1 e) x) (15 - y) (y + 1)) : ∀ U' : Nat → Int32, (∀ r c, r < 16 → c < 16 → (bt (U' r) c = true ↔ bt (U r) c = true ∧ ¬ inR x y W H c r)) → MU f q U' ∧ bef U' (16 * y + x + 1) := by
  have w1 : x + 1 ≤ W := by rw [hW]; exact goR_ge _ _
  have w2 : W ≤ 16 := by rw [hW]; have := goR_le (g := bt (f y)) (c := bt (q.2.1 y)) (15 - x) (x + 1); omega
  have w3 : ∀ t, x + 1 ≤ t → t < W → bt (f y) t = true ∧ bt (q.2.1 y) t = false := fun t t1 t2 => goR_in (15 - x) (x + 1) t t1 (by rw [← hW]; exact t2)
  have w4 : W = 16 ∨ ¬ (bt (f y) W = true ∧ bt (q.2.1 y) W = false) := by
    have := goR_end (g := bt (f y)) (c := bt (q.2.1 y)) (15 - x) (x + 1)
    rw [← hW] at this
    rcases this with z | z | z
    · left; omega
    · right; intro v; rw [z] at v; exact absurd v.1 (by decide)
    · right; intro v; rw [z] at v; exact absurd v.2 (by decide)
  have k1 : y + 1 ≤ H := by rw [hH]; exact goR_ge _ _
  have k2 : H ≤ 16 := by rw [hH]; have := goR_le (g := fun e => bt (f e) x) (c := fun e => bt (q.1 e) x) (15 - y) (y + 1); omega
  have k3 : ∀ t, y + 1 ≤ t → t < H → bt (f t) x = true ∧ bt (q.1 t) x = false := fun t t1 t2 => goR_in (g := fun e => bt (f e) x) (c := fun e => bt (q.1 e) x) (15 - y) (y + 1) t t1 (by rw [← hH]; exact t2)
  have k4 : H = 16 ∨ ¬ (bt (f H) x = true ∧ bt (q.1 H) x = false) := by
    have := goR_end (g := fun e => bt (f e) x) (c := fun e => bt (q.1 e) x) (15 - y) (y + 1)
    rw [← hH] at this
    rcases this with z | z | z
    · left; omega
    · right; intro v; rw [show bt (f H) x = false from z] at v; exact absurd v.1 (by decide)
    · right; intro v; rw [show bt (q.1 H) x = true from z] at v; exact absurd v.2 (by decide)
  have hfx : bt (f y) x = true := h.1 y x hy hx hU
  have hf0 : ∀ t, x ≤ t → t < W → bt (f y) t = true := fun t t1 t2 => by
    by_cases z : t = x
    · rw [z]; exact hfx
    · exact (w3 t (by omega) t2).1
  have hrow0 : ∀ i, x < i → i < W → OH f q y i := fun i i1 i2 => ⟨⟨hf0 (i - 1) (by omega) (by omega), hf0 i (by omega) i2⟩, by show ¬ bt (q.2.1 y) i = true; rw [(w3 i (by omega) i2).2]; decide⟩
  have hcol : ∀ j, y < j → j < H → OV f q j x := fun j j1 j2 => by
    have hf1 : bt (f (j - 1)) x = true := by
      by_cases z : j - 1 = y
      · rw [z]; exact hfx
      · exact (k3 (j - 1) (by omega) (by omega)).1
    exact ⟨⟨hf1, (k3 j (by omega) j2).1⟩, by show ¬ bt (q.1 j) x = true; rw [(k3 j (by omega) j2).2]; decide⟩
  have R1 : ∀ n, y + n < H → (∀ i, x < i → i < W → OH f q (y + n) i) ∧ (1 ≤ n → ∀ i, x ≤ i → i < W → OV f q (y + n) i) := by
    intro n
    induction n with
    | zero => intro _; exact ⟨hrow0, fun z => by omega⟩
    | succ n ih =>
      intro hn
      have ih := (ih (by omega)).1
      have key : ∀ m, x + m < W → OV f q (y + (n + 1)) (x + m) ∧ (1 ≤ m → OH f q (y + (n + 1)) (x + m)) := by
        intro m
        induction m with
        | zero => intro _; exact ⟨hcol _ (by omega) hn, fun z => by omega⟩
        | succ m ihm =>
          intro hm
          have h1 := (ihm (by omega)).1
          have h2 := ih (x + (m + 1)) (by omega) hm
          have h3 := (hL (x + (m + 1)) (y + (n + 1)) (by omega) (by omega)).1.1
          rw [show y + (n + 1) - 1 = y + n by omega, show x + (m + 1) - 1 = x + m by omega] at h3
          have h4 := h3 ⟨h2, h1⟩
          exact ⟨h4.2, fun _ => h4.1⟩
      refine ⟨fun i i1 i2 => ?_, fun _ i i1 i2 => ?_⟩
      · have := (key (i - x) (by omega)).2 (by omega)
        rw [show x + (i - x) = i by omega] at this
        exact this
      · have := (key (i - x) (by omega)).1
        rw [show x + (i - x) = i by omega] at this
        exact this
  have R1h : ∀ j i, y ≤ j → j < H → x < i → i < W → OH f q j i := fun j i j1 j2 i1 i2 => by
    have := (R1 (j - y) (by omega)).1 i i1 i2
    rw [show y + (j - y) = j by omega] at this; exact this
  have R1v : ∀ j i, y < j → j < H → x ≤ i → i < W → OV f q j i := fun j i j1 j2 i1 i2 => by
    have := (R1 (j - y) (by omega)).2 (by omega) i i1 i2
    rw [show y + (j - y) = j by omega] at this; exact this
  have R2 : W ≤ 15 → ∀ n, y + n < H → ¬ OH f q (y + n) W := by
    intro hW5 n
    induction n with
    | zero =>
      intro _ z
      rcases w4 with v | v
      · omega
      · refine v ⟨z.1.2, ?_⟩
        have := z.2
        exact Bool.eq_false_iff.mpr this
    | succ n ih =>
      intro hn z
      have h3 := (hL W (y + (n + 1)) (by omega) (by omega)).2.1
      rw [show y + (n + 1) - 1 = y + n by omega] at h3
      exact ih (by omega) (h3 ⟨z, R1v (y + (n + 1)) (W - 1) (by omega) hn (by omega) (by omega)⟩).1
  have R3 : H ≤ 15 → ∀ m, x + m < W → ¬ OV f q H (x + m) := by
    intro hH5 m
    induction m with
    | zero =>
      intro _ z
      rcases k4 with v | v
      · omega
      · exact v ⟨z.1.2, Bool.eq_false_iff.mpr z.2⟩
    | succ m ih =>
      intro hm z
      have h3 := (hL (x + (m + 1)) H (by omega) (by omega)).1.2
      rw [show x + (m + 1) - 1 = x + m by omega] at h3
      exact ih (by omega) (h3 ⟨R1h (H - 1) (x + (m + 1)) (by omega) (by omega) (by omega) hm, z⟩).2
  have R4 : 1 ≤ x → ∀ n, y + n < H → ¬ OH f q (y + n) x := by
    intro hx1 n
    induction n with
    | zero =>
      intro _ z
      have z : OH f q y x := z
      have := (h.2.1 y x hy (by omega) z).mpr hU
      rw [hb' y (x - 1) hy (by omega) (by omega)] at this
      exact absurd this (by decide)
    | succ n ih =>
      intro hn z
      have h3 := (hL x (y + (n + 1)) (by omega) (by omega)).2.2
      rw [show y + (n + 1) - 1 = y + n by omega] at h3
      exact ih (by omega) (h3 ⟨z, hcol _ (by omega) hn⟩).1
  have hUr : ∀ m, x + m < W → bt (U y) (x + m) = true := by
    intro m
    induction m with
    | zero => intro _; exact hU
    | succ m ih =>
      intro hm
      have := (h.2.1 y (x + (m + 1)) hy (by omega) (hrow0 _ (by omega) hm)).mp (by rw [show x + (m + 1) - 1 = x + m by omega]; exact ih (by omega))
      exact this
  have R5 : 1 ≤ y → ∀ m, x + m < W → ¬ OV f q y (x + m) := by
    intro hy1 m hm z
    have := (h.2.2 y (x + m) (by omega) (by omega) z).mpr (hUr m hm)
    rw [hb' (y - 1) (x + m) (by omega) (by omega) (by omega)] at this
    exact absurd this (by decide)
  intro U' hU'
  refine ⟨⟨fun r c h1 h2 z => h.1 r c h1 h2 ((hU' r c h1 h2).mp z).1, fun r c h1 h2 hO => ?_, fun r c h1 h2 hO => ?_⟩, fun r c h1 h2 h3 => ?_⟩
  · rw [hU' r (c - 1) h1 (by omega), hU' r c h1 (by omega), h.2.1 r c h1 h2 hO]
    have hiff : inR x y W H (c - 1) r ↔ inR x y W H c r := by
      unfold inR
      by_cases hr : y ≤ r ∧ r < H
      · have a1 : ¬ c = W := fun v => by
          rw [v] at hO
          have := R2 (by omega) (r - y) (by omega)
          rw [show y + (r - y) = r by omega] at this
          exact this hO
        have a2 : ¬ c = x := fun v => by
          rw [v] at hO
          have := R4 (by omega) (r - y) (by omega)
          rw [show y + (r - y) = r by omega] at this
          exact this hO
        omega
      · exact ⟨fun v => absurd v.2 hr, fun v => absurd v.2 hr⟩
    rw [hiff]
  · rw [hU' (r - 1) c (by omega) h2, hU' r c (by omega) h2, h.2.2 r c h1 h2 hO]
    have hiff : inR x y W H c (r - 1) ↔ inR x y W H c r := by
      unfold inR
      by_cases hc : x ≤ c ∧ c < W
      · have a1 : ¬ r = H := fun v => by
          rw [v] at hO
          have := R3 (by omega) (c - x) (by omega)
          rw [show x + (c - x) = c by omega] at this
          exact this hO
        have a2 : ¬ r = y := fun v => by
          rw [v] at hO
          have := R5 (by omega) (c - x) (by omega)
          rw [show x + (c - x) = c by omega] at this
          exact this hO
        omega
      · exact ⟨fun v => absurd v.1 hc, fun v => absurd v.1 hc⟩
    rw [hiff]
  · refine Bool.eq_false_iff.mpr (fun z => ?_)
    have z := (hU' r c h1 h2).mp z
    by_cases hq : 16 * r + c < 16 * y + x
    · rw [hb' r c h1 h2 hq] at z; exact absurd z.1 (by decide)
    · have e1 : r = y := by omega
      have e2 : c = x := by omega
      exact z.2 ⟨⟨by omega, by omega⟩, by omega, by omega⟩
theorem clrem_bt {x y w h r c : Nat} (hx : x + w ≤ 17) (hr : r < 16) (hc : c < 16) : bt (clrem U x y w h r) c = true ↔ bt (U r) c = true ∧ ¬ inR x y (x + w) (y + h) c r := by
  unfold clrem ifr inR
  by_cases hq : y ≤ r ∧ r < y + h
  · rw [if_pos hq, b_and, b_xor, b_m1 c (by omega), spn_bt (by omega) (by omega) (by omega), Bool.and_eq_true]
    by_cases hz : x ≤ c ∧ c < x + w
    · rw [decide_eq_true hz]
      exact ⟨fun v => absurd v.2 (by decide), fun v => absurd ⟨hz, hq⟩ v.2⟩
    · rw [decide_eq_false hz]
      exact ⟨fun v => ⟨v.1, fun u => hz u.1⟩, fun v => ⟨v.1, rfl⟩⟩
  · rw [if_neg hq]
    exact ⟨fun v => ⟨v, fun u => hq u.2⟩, fun v => v.1⟩
end P71a
def ust (lc uc : Nat → Int32) (k : Nat) (s : CLS) : CLS := if bt (s.1 (k / 16)) (k % 16) = true then (clrem s.1 (k % 16) (k / 16) (pw uc s.1 (k % 16) (k / 16)) (ph lc s.1 (k % 16) (k / 16)), fapp s.2 (nI (k % 16)) (nI (k / 16)) (nI (pw uc s.1 (k % 16) (k / 16))) (nI (ph lc s.1 (k % 16) (k / 16)))) else s
def usl (lc uc : Nat → Int32) : Nat → Nat → CLS → CLS
  | 0, _, s => s
  | j + 1, k, s => usl lc uc j (k + 1) (ust lc uc k s)
theorem usl_add {lc uc : Nat → Int32} : ∀ a b k s, usl lc uc (a + b) k s = usl lc uc b (k + a) (usl lc uc a k s) := by
  intro a
  induction a with
  | zero => intro b k s; rw [Nat.zero_add]; rfl
  | succ a ih =>
    intro b k s
    rw [show a + 1 + b = (a + b) + 1 by omega]
    show usl lc uc (a + b) (k + 1) (ust lc uc k s) = usl lc uc b (k + (a + 1)) (usl lc uc a (k + 1) (ust lc uc k s))
    rw [ih, show k + 1 + a = k + (a + 1) by omega]
theorem usl_x {lc uc : Nat → Int32} {y : Nat} : ∀ j x s, x + j ≤ 16 → usl lc uc j (16 * y + x) s = clx lc uc y j x s := by
  intro j
  induction j with
  | zero => intro x s _; rfl
  | succ j ih =>
    intro x s h
    show usl lc uc j (16 * y + (x + 1)) (ust lc uc (16 * y + x) s) = clx lc uc y j (x + 1) _
    rw [ih (x + 1) _ (by omega)]
    unfold ust
    rw [show (16 * y + x) / 16 = y by omega, show (16 * y + x) % 16 = x by omega]
theorem usl_y {lc uc : Nat → Int32} : ∀ j y s, usl lc uc (16 * j) (16 * y) s = cly lc uc j y s := by
  intro j
  induction j with
  | zero => intro y s; rfl
  | succ j ih =>
    intro y s
    rw [show 16 * (j + 1) = 16 + 16 * j by omega, usl_add, show 16 * y + 16 = 16 * (y + 1) by omega, ih, show 16 * y = 16 * y + 0 from rfl, usl_x 16 0 s (by omega)]
    rfl
theorem itv_old {s : IS} {i g : Nat} {v : Int32} (hi : i < s.1) (hs : s.1 < 1000) (hg : g < 4) : itv (s.1 + 1) (upd s.2 s.1 v) (nI i) (nI g) = itv s.1 s.2 (nI i) (nI g) := by
  rw [itv_in (by omega) (by omega) hg, itv_in hi (by omega) hg, upd_n (by omega)]
def PVK (s : IS) (k : Nat) : Prop := (s.1 ≤ k ∧ ∀ i g, i < s.1 → g < 4 → itv s.1 s.2 (nI i) (nI g) = nI (pv s i g)) ∧ (∀ i, i < s.1 → ((pv s i 0 < 16 ∧ pv s i 1 < 16) ∧ (1 ≤ pv s i 2 ∧ pv s i 2 ≤ 16) ∧ (1 ≤ pv s i 3 ∧ pv s i 3 ≤ 16)) ∧ 16 * pv s i 1 + pv s i 0 < k) ∧ ∀ i j, i < j → j < s.1 → 16 * pv s i 1 + pv s i 0 < 16 * pv s j 1 + pv s j 0
theorem PVK_app {s : IS} {a b c e' : Nat} (h : PVK s (16 * b + a)) (ha : a < 16) (hb' : b < 16) (hc : 1 ≤ c ∧ c ≤ 16) (he : 1 ≤ e' ∧ e' ≤ 16) : PVK (fapp s (nI a) (nI b) (nI c) (nI e')) (16 * b + a + 1) ∧ s.1 < 256 := by
  obtain ⟨⟨h0, h1⟩, h2, h3⟩ := h
  have hlt : s.1 < 256 := by omega
  have hold : ∀ i g, i < s.1 → g < 4 → pv (s.1 + 1, upd s.2 s.1 (pkd (nI a) (nI b) (nI c) (nI e'))) i g = pv s i g := fun i g hi hg => by
    unfold pv
    dsimp only
    rw [itv_old hi (by omega) hg]
  have hnew : ∀ g, g < 4 → itv (s.1 + 1) (upd s.2 s.1 (pkd (nI a) (nI b) (nI c) (nI e'))) (nI s.1) (nI g) = nI (fq a b c e' g) := fun g hg => by
    rw [itv_in (by omega) (by omega) hg, upd_e, pkd_un (by omega) (by omega) (by omega) (by omega) hg]
  have hfq : ∀ g, fq a b c e' g < 32 := fun g => by unfold fq; split; omega; split; omega; split <;> omega
  have hnp : ∀ g, g < 4 → pv (s.1 + 1, upd s.2 s.1 (pkd (nI a) (nI b) (nI c) (nI e'))) s.1 g = fq a b c e' g := fun g hg => by
    unfold pv
    dsimp only
    rw [hnew g hg, cl_nI (by have := hfq g; omega)]
  unfold fapp
  rw [if_pos hlt]
  refine ⟨⟨⟨by show s.1 + 1 ≤ _; omega, fun i g hi hg => ?_⟩, fun i hi => ?_, fun i j hij hj => ?_⟩, hlt⟩
  · have hi : i < s.1 + 1 := hi
    by_cases hq : i = s.1
    · rw [hq, hnp g hg]; exact hnew g hg
    · rw [hold i g (by omega) hg]
      show itv (s.1 + 1) (upd s.2 s.1 _) (nI i) (nI g) = _
      rw [itv_old (by omega) (by omega) hg]
      exact h1 i g (by omega) hg
  · have hi : i < s.1 + 1 := hi
    by_cases hq : i = s.1
    · rw [hq, hnp 0 (by decide), hnp 1 (by decide), hnp 2 (by decide), hnp 3 (by decide)]
      exact ⟨⟨⟨ha, hb'⟩, hc, he⟩, by show 16 * b + a < _; omega⟩
    · rw [hold i 0 (by omega) (by decide), hold i 1 (by omega) (by decide), hold i 2 (by omega) (by decide), hold i 3 (by omega) (by decide)]
      have := h2 i (by omega)
      exact ⟨this.1, by omega⟩
  · have hj : j < s.1 + 1 := hj
    rw [hold i 0 (by omega) (by decide), hold i 1 (by omega) (by decide)]
    by_cases hq : j = s.1
    · rw [hq, hnp 0 (by decide), hnp 1 (by decide)]
      exact (h2 i (by omega)).2
    · rw [hold j 0 (by omega) (by decide), hold j 1 (by omega) (by decide)]
      exact h3 i j hij (by omega)
theorem PVK_PV {s : IS} (h : PVK s 256) : PV s := ⟨⟨h.1.1, h.1.2, fun i hi => (h.2.1 i hi).1⟩, h.2.2⟩
section P71
variable {S : mm_S} {d : Nat} {M : mm_M} {A : AS} {I : Nat → Int32} {sh : Nat → Nat → Int32} {o : OS} {l : LYS} {pi fa tp : IS}
set_option maxRecDepth 8000 in
theorem m187 {s x y c : Nat} {q : QS} {MT PC : Nat → Int32} (hc : CRl A sh) (hs6 : s < 6) (hx : x < 16) (hy : y < 16) (hcc : c < 256) (hLF : ∀ y x, y < 16 → x < 17 → A 102 (17 * y + x) = zb (vB q y x)) (hBL : ∀ y x, y < 17 → x < 16 → A 101 (16 * y + x) = zb (hB q y x)) : mm_R S (d + 2) 187 0 (mm_en 187 [.ref 73, .int (nI s), .int (nI x), .int (nI y)]) [] (mdm M (upa (upa A 106 MT) 107 PC) (upd I 44 (nI c))) (fun v M' => v = none ∧ ∃ MT', M' = (mdm M (upa (upa A 106 MT') 107 (up4 PC (4 * c) (nI x) (nI y) (nI ((goR (bt (sh s y)) (bt (q.2.1 y)) (15 - x) (x + 1)) - x)) (nI ((goR (fun e => bt (sh s e) x) (fun e => bt (q.1 e) x) (15 - y) (y + 1)) - y)))) (upd I 44 (nI (c + 1)))) ∧ ∀ r cc, r < 16 → cc < 16 → MT' (16 * r + cc) = if (x ≤ cc ∧ cc < (goR (bt (sh s y)) (bt (q.2.1 y)) (15 - x) (x + 1))) ∧ y ≤ r ∧ r < (goR (fun e => bt (sh s e) x) (fun e => bt (q.1 e) x) (15 - y) (y + 1)) then nI 1 else MT (16 * r + cc)) := by
  show mm_R S (d + 2) 187 0 [some (.ref 73), some (.int (nI s)), some (.int (nI x)), some (.int (nI y)), none, none, none] [] (mdm M (upa (upa A 106 MT) 107 PC) (upd I 44 (nI c))) _
  have rr1 : ∀ MT PC, CRl (upa (upa A 106 MT) 107 PC) sh := fun _ _ => hc
  have hL' : ∀ MT PC y x, y < 16 → x < 17 → upa (upa A 106 MT) 107 PC 102 (17 * y + x) = zb (vB q y x) := fun _ _ => hLF
  have hB' : ∀ MT PC y x, y < 17 → x < 16 → upa (upa A 106 MT) 107 PC 101 (16 * y + x) = zb (hB q y x) := fun _ _ => hBL
  obtain ⟨W, hW⟩ : ∃ W, W = (goR (bt (sh s y)) (bt (q.2.1 y)) (15 - x) (x + 1)) := ⟨_, rfl⟩
  obtain ⟨H, hH⟩ : ∃ H, H = (goR (fun e => bt (sh s e) x) (fun e => bt (q.1 e) x) (15 - y) (y + 1)) := ⟨_, rfl⟩
  rw [← hW, ← hH]
  have w1 : x + 1 ≤ W := by rw [hW]; exact goR_ge _ _
  have w2 : W ≤ 16 := by rw [hW]; have := goR_le (g := bt (sh s y)) (c := bt (q.2.1 y)) (15 - x) (x + 1); omega
  have k1 : y + 1 ≤ H := by rw [hH]; exact goR_ge _ _
  have k2 : H ≤ 16 := by rw [hH]; have := goR_le (g := fun e => bt (sh s e) x) (c := fun e => bt (q.1 e) x) (15 - y) (y + 1); omega
  have hwh : (W - x) * (H - y) ≤ 16 * 16 := Nat.mul_le_mul (by omega) (by omega)
  have h139 : ∀ (t6 : Option Value), mm_R S (d + 2) 187 139 [some (.ref 73), some (.int (nI s)), some (.int (nI x)), some (.int (nI y)), some (.int (nI (W - x))), some (.int (nI (H - y))), t6] [] (mdm M (upa (upa A 106 (fls MT 0 x y (W - x) ((W - x) * (H - y)))) 107 PC) (upd I 44 (nI c))) (fun v M' => v = none ∧ ∃ MT', M' = (mdm M (upa (upa A 106 MT') 107 (up4 PC (4 * c) (nI x) (nI y) (nI (W - x)) (nI (H - y)))) (upd I 44 (nI (c + 1)))) ∧ ∀ r cc, r < 16 → cc < 16 → MT' (16 * r + cc) = if (x ≤ cc ∧ cc < W) ∧ y ≤ r ∧ r < H then nI 1 else MT (16 * r + cc)) := by
    intro t6
    refine R_aload_n (q := 140) rfl rfl rfl ?_
    refine R_getf (q := 143) rfl rfl rfl md_73 rfl ?_
    refine R_iconst (q := 144) (v := nI 4) rfl rfl (by decide) ?_
    refine R_aload_n (q := 145) rfl rfl rfl ?_
    refine R_getf (q := 148) rfl rfl rfl md_73 rfl ?_
    rw [upd_e]
    refine R_imul (q := 149) rfl rfl ?_
    rw [pk_mul]
    refine R_iload_n (q := 150) rfl rfl rfl ?_
    refine R_iastore (q := 151) rfl rfl md_107 (by first | assumption | exact in_nI (by omega) (by decide)) ?_
    rw [cl_nI (by omega)]
    rw [md_p107]
    rw [upa_u, upa_e]
    refine R_aload_n (q := 152) rfl rfl rfl ?_
    refine R_getf (q := 155) rfl rfl rfl md_73 rfl ?_
    refine R_iconst (q := 156) (v := nI 4) rfl rfl (by decide) ?_
    refine R_aload_n (q := 157) rfl rfl rfl ?_
    refine R_getf (q := 160) rfl rfl rfl md_73 rfl ?_
    rw [upd_e]
    refine R_imul (q := 161) rfl rfl ?_
    rw [pk_mul]
    refine R_iconst (q := 162) (v := nI 1) rfl rfl (by decide) ?_
    refine R_iadd (q := 163) rfl rfl ?_
    rw [nI_add]
    refine R_iload_n (q := 164) rfl rfl rfl ?_
    refine R_iastore (q := 165) rfl rfl md_107 (by first | assumption | exact in_nI (by omega) (by decide)) ?_
    rw [cl_nI (by omega)]
    rw [md_p107]
    rw [upa_u, upa_e]
    refine R_aload_n (q := 166) rfl rfl rfl ?_
    refine R_getf (q := 169) rfl rfl rfl md_73 rfl ?_
    refine R_iconst (q := 170) (v := nI 4) rfl rfl (by decide) ?_
    refine R_aload_n (q := 171) rfl rfl rfl ?_
    refine R_getf (q := 174) rfl rfl rfl md_73 rfl ?_
    rw [upd_e]
    refine R_imul (q := 175) rfl rfl ?_
    rw [pk_mul]
    refine R_iconst (q := 176) (v := nI 2) rfl rfl (by decide) ?_
    refine R_iadd (q := 177) rfl rfl ?_
    rw [nI_add]
    refine R_iload (q := 179) rfl rfl rfl ?_
    refine R_iastore (q := 180) rfl rfl md_107 (by first | assumption | exact in_nI (by omega) (by decide)) ?_
    rw [cl_nI (by omega)]
    rw [md_p107]
    rw [upa_u, upa_e]
    refine R_aload_n (q := 181) rfl rfl rfl ?_
    refine R_getf (q := 184) rfl rfl rfl md_73 rfl ?_
    refine R_iconst (q := 185) (v := nI 4) rfl rfl (by decide) ?_
    refine R_aload_n (q := 186) rfl rfl rfl ?_
    refine R_getf (q := 189) rfl rfl rfl md_73 rfl ?_
    rw [upd_e]
    refine R_imul (q := 190) rfl rfl ?_
    rw [pk_mul]
    refine R_iconst (q := 191) (v := nI 3) rfl rfl (by decide) ?_
    refine R_iadd (q := 192) rfl rfl ?_
    rw [nI_add]
    refine R_iload (q := 194) rfl rfl rfl ?_
    refine R_iastore (q := 195) rfl rfl md_107 (by first | assumption | exact in_nI (by omega) (by decide)) ?_
    rw [cl_nI (by omega)]
    rw [md_p107]
    rw [upa_u, upa_e]
    refine R_aload_n (q := 196) rfl rfl rfl ?_
    first | refine R_dupa (q := 197) rfl rfl ?_ | refine R_dupi (q := 197) rfl rfl ?_
    refine R_getf (q := 200) rfl rfl rfl md_73 rfl ?_
    rw [upd_e]
    refine R_iconst (q := 201) (v := nI 1) rfl rfl (by decide) ?_
    refine R_iadd (q := 202) rfl rfl ?_
    rw [nI_add]
    refine R_putf (q := 205) rfl rfl rfl md_73 (Nat.le_of_ble_eq_true rfl) rfl (fun hf => absurd hf (by decide)) rfl ?_
    dsimp only [List.set]
    rw [md_f44]
    rw [upd_uu]
    refine R_return rfl rfl ?_
    refine ⟨rfl, _, rfl, fun r cc hr hcc2 => ?_⟩
    have h5 := fls_eq (f := MT) (s := 0) (x := x) (y := y) (w := W - x) (by omega) (by omega) ((W - x) * (H - y)) 0 r cc (by omega) (by omega) hr hcc2 (by
      left
      have : ((W - x) * (H - y) - 1) / (W - x) < H - y := by
        apply Nat.div_lt_of_lt_mul
        have : 1 ≤ (W - x) * (H - y) := Nat.mul_pos (by omega) (by omega)
        omega
      omega)
    rw [show 256 * 0 + 16 * r + cc = 16 * r + cc by omega] at h5
    rw [h5]
    by_cases hin : (x ≤ cc ∧ cc < W) ∧ y ≤ r ∧ r < H
    · rw [if_pos hin, if_pos ⟨rfl, by omega, by omega, (fls_in (h := H - y) ⟨by omega, by omega⟩ (by omega)).mpr (by omega)⟩]
    · rw [if_neg hin, if_neg (fun z => hin ⟨by omega, z.2.2.1, by have := (fls_in (h := H - y) ⟨by omega, by omega⟩ z.2.2.1).mp z.2.2.2; omega⟩)]
  have h99 : ∀ (j k : Nat), k + j = (W - x) * (H - y) → mm_R S (d + 2) 187 99 [some (.ref 73), some (.int (nI s)), some (.int (nI x)), some (.int (nI y)), some (.int (nI (W - x))), some (.int (nI (H - y))), some (.int (nI k))] [] (mdm M (upa (upa A 106 (fls MT 0 x y (W - x) k)) 107 PC) (upd I 44 (nI c))) (fun v M' => v = none ∧ ∃ MT', M' = (mdm M (upa (upa A 106 MT') 107 (up4 PC (4 * c) (nI x) (nI y) (nI (W - x)) (nI (H - y)))) (upd I 44 (nI (c + 1)))) ∧ ∀ r cc, r < 16 → cc < 16 → MT' (16 * r + cc) = if (x ≤ cc ∧ cc < W) ∧ y ≤ r ∧ r < H then nI 1 else MT (16 * r + cc)) := by
    intro j
    induction j with
    | zero =>
      intro k hk
      have hkk : k = (W - x) * (H - y) := by omega
      subst hkk
      refine R_iload (q := 101) rfl rfl rfl ?_
      refine R_iload (q := 103) rfl rfl rfl ?_
      refine R_iload (q := 105) rfl rfl rfl ?_
      refine R_imul (q := 106) rfl rfl ?_
      rw [pk_mul]
      refine R_icmp_ge (q := 109) (t := 139) rfl rfl rfl (fun h106 => ?_) (fun h106 => absurd (nI_le (by omega) (by omega)) h106)
      exact h139 _
    | succ j ih =>
      intro k hk
      have hkd : k / (W - x) < H - y := Nat.div_lt_of_lt_mul (by omega)
      have hkm : k % (W - x) < W - x := Nat.mod_lt _ (by omega)
      have hfs : upd (fls MT 0 x y (W - x) k) (16 * (y + k / (W - x)) + x + k % (W - x)) (nI 1) = (fls MT 0 x y (W - x) (k + 1)) := by
        show _ = upd (fls MT 0 x y (W - x) k) (256 * 0 + 16 * (y + k / (W - x)) + x + k % (W - x)) (nI 1)
        rw [show 256 * 0 + 16 * (y + k / (W - x)) + x + k % (W - x) = 16 * (y + k / (W - x)) + x + k % (W - x) by omega]
      refine R_iload (q := 101) rfl rfl rfl ?_
      refine R_iload (q := 103) rfl rfl rfl ?_
      refine R_iload (q := 105) rfl rfl rfl ?_
      refine R_imul (q := 106) rfl rfl ?_
      rw [pk_mul]
      refine R_icmp_ge (q := 109) (t := 139) rfl rfl rfl (fun h106 => absurd h106 (nI_ge (by omega) (by omega))) (fun h106 => ?_)
      refine R_aload_n (q := 110) rfl rfl rfl ?_
      refine R_getf (q := 113) rfl rfl rfl md_73 rfl ?_
      refine R_bipush (q := 115) (v := nI 16) rfl rfl (by decide) ?_
      refine R_iload_n (q := 116) rfl rfl rfl ?_
      refine R_iload (q := 118) rfl rfl rfl ?_
      refine R_iload (q := 120) rfl rfl rfl ?_
      refine R_idiv (q := 121) rfl rfl (fun z => by have := nI_0_of z; omega) ?_
      rw [pk_div (by omega) (by omega) (by omega)]
      refine R_iadd (q := 122) rfl rfl ?_
      rw [nI_add]
      refine R_imul (q := 123) rfl rfl ?_
      rw [pk_mul]
      refine R_iload_n (q := 124) rfl rfl rfl ?_
      refine R_iadd (q := 125) rfl rfl ?_
      rw [nI_add]
      refine R_iload (q := 127) rfl rfl rfl ?_
      refine R_iload (q := 129) rfl rfl rfl ?_
      refine R_irem (q := 130) rfl rfl (fun z => by have := nI_0_of z; omega) ?_
      rw [pk_rem (by omega) (by omega) (by omega)]
      refine R_iadd (q := 131) rfl rfl ?_
      rw [nI_add]
      refine R_iconst (q := 132) (v := nI 1) rfl rfl (by decide) ?_
      refine R_bastore (q := 133) rfl rfl md_106 (by first | assumption | exact in_nI (by omega) (by decide)) (by first | exact Or.inl rfl | exact Or.inr rfl) ?_
      rw [cl_nI (by omega)]
      rw [md_p106]
      rw [upa_cm (a := 107) (b := 106) (by decide), upa_u, show upa (upa A 106 (fls MT 0 x y (W - x) k)) 107 PC 106 = (fls MT 0 x y (W - x) k) from rfl, hfs]
      refine R_iinc (q := 136) rfl rfl rfl (nI_i1 k) rfl ?_
      dsimp only [List.set]
      refine R_goto (t := 99) rfl rfl ?_
      exact ih (k + 1) (by omega)
  have h51 : ∀ (j z : Nat) (t6 : Option Value), z + j = 16 → y + 1 ≤ z → goR (fun e => bt (sh s e) x) (fun e => bt (q.1 e) x) j z = H → mm_R S (d + 2) 187 51 [some (.ref 73), some (.int (nI s)), some (.int (nI x)), some (.int (nI y)), some (.int (nI (W - x))), some (.int (nI (z - y))), t6] [] (mdm M (upa (upa A 106 MT) 107 PC) (upd I 44 (nI c))) (fun v M' => v = none ∧ ∃ MT', M' = (mdm M (upa (upa A 106 MT') 107 (up4 PC (4 * c) (nI x) (nI y) (nI (W - x)) (nI (H - y)))) (upd I 44 (nI (c + 1)))) ∧ ∀ r cc, r < 16 → cc < 16 → MT' (16 * r + cc) = if (x ≤ cc ∧ cc < W) ∧ y ≤ r ∧ r < H then nI 1 else MT (16 * r + cc)) := by
    intro j
    induction j with
    | zero =>
      intro z t6 hz hyz hg
      have hz6 : z = 16 := by omega
      subst hz6
      have hg : 16 = H := hg
      subst hg
      refine R_iload_n (q := 52) rfl rfl rfl ?_
      refine R_iload (q := 54) rfl rfl rfl ?_
      refine R_iadd (q := 55) rfl rfl ?_
      rw [nI_add, show y + (16 - y) = 16 by omega]
      refine R_bipush (q := 57) (v := nI 16) rfl rfl (by decide) ?_
      refine R_icmp_ge (q := 60) (t := 96) rfl rfl rfl (fun h57 => ?_) (fun h57 => absurd (nI_le (by omega) (by omega)) h57)
      refine R_iconst (q := 97) (v := nI 0) rfl rfl (by decide) ?_
      refine R_istore (q := 99) rfl rfl (Nat.le_of_ble_eq_true rfl) rfl ?_
      dsimp only [List.set]
      exact h99 ((W - x) * (16 - y)) 0 (by omega)
    | succ j ih =>
      intro z t6 hz hyz hg
      have hgs : goR (fun e => bt (sh s e) x) (fun e => bt (q.1 e) x) (j + 1) z = if bt (sh s z) x = true ∧ bt (q.1 z) x = false then goR (fun e => bt (sh s e) x) (fun e => bt (q.1 e) x) j (z + 1) else z := rfl
      rw [hgs] at hg
      have hex : ¬ (bt (sh s z) x = true ∧ bt (q.1 z) x = false) → mm_R S (d + 2) 187 96 [some (.ref 73), some (.int (nI s)), some (.int (nI x)), some (.int (nI y)), some (.int (nI (W - x))), some (.int (nI (z - y))), t6] [] (mdm M (upa (upa A 106 MT) 107 PC) (upd I 44 (nI c))) (fun v M' => v = none ∧ ∃ MT', M' = (mdm M (upa (upa A 106 MT') 107 (up4 PC (4 * c) (nI x) (nI y) (nI (W - x)) (nI (H - y)))) (upd I 44 (nI (c + 1)))) ∧ ∀ r cc, r < 16 → cc < 16 → MT' (16 * r + cc) = if (x ≤ cc ∧ cc < W) ∧ y ≤ r ∧ r < H then nI 1 else MT (16 * r + cc)) := by
        intro hn
        rw [if_neg hn] at hg
        rw [hg]
        refine R_iconst (q := 97) (v := nI 0) rfl rfl (by decide) ?_
        refine R_istore (q := 99) rfl rfl (Nat.le_of_ble_eq_true rfl) rfl ?_
        dsimp only [List.set]
        exact h99 ((W - x) * (H - y)) 0 (by omega)
      refine R_iload_n (q := 52) rfl rfl rfl ?_
      refine R_iload (q := 54) rfl rfl rfl ?_
      refine R_iadd (q := 55) rfl rfl ?_
      rw [nI_add, show y + (z - y) = z by omega]
      refine R_bipush (q := 57) (v := nI 16) rfl rfl (by decide) ?_
      refine R_icmp_ge (q := 60) (t := 96) rfl rfl rfl (fun h57 => absurd h57 (nI_ge (by omega) (by omega))) (fun h57 => ?_)
      refine R_aload_n (q := 61) rfl rfl rfl ?_
      refine R_iload_n (q := 62) rfl rfl rfl ?_
      refine R_iload_n (q := 63) rfl rfl rfl ?_
      refine R_iload_n (q := 64) rfl rfl rfl ?_
      refine R_iload (q := 66) rfl rfl rfl ?_
      refine R_iadd (q := 67) rfl rfl ?_
      rw [nI_add, show y + (z - y) = z by omega]
      refine R_callv3 (q := 70) rfl rfl rfl rfl md_73 (Nat.le_of_ble_eq_true rfl) rfl ?_
      refine R_mono (m149 (rr1 _ _) hs6) (fun v67 M67 hr67 => ?_)
      obtain ⟨rfl, hm67⟩ := hr67
      rw [hm67]
      dsimp only [Option.toList, List.cons_append, List.nil_append]
      rw [hs_n hx (by omega)]
      refine R_if_eq (q := 73) (t := 96) rfl rfl rfl (fun h70 => ?_) (fun h70 => ?_)
      · first
          | (have w := zb_eq0.mp h70
             exact hex (fun v => by rw [w] at v; exact absurd v.1 (by decide)))
          | (have w : bt (q.1 z) x = true := zb_ne0.mp h87
             exact hex (fun v => by rw [w] at v; exact absurd v.2 (by decide)))
      · refine R_aload_n (q := 74) rfl rfl rfl ?_
        refine R_getf (q := 77) rfl rfl rfl md_73 rfl ?_
        refine R_bipush (q := 79) (v := nI 16) rfl rfl (by decide) ?_
        refine R_iload_n (q := 80) rfl rfl rfl ?_
        refine R_iload (q := 82) rfl rfl rfl ?_
        refine R_iadd (q := 83) rfl rfl ?_
        rw [nI_add, show y + (z - y) = z by omega]
        refine R_imul (q := 84) rfl rfl ?_
        rw [pk_mul]
        refine R_iload_n (q := 85) rfl rfl rfl ?_
        refine R_iadd (q := 86) rfl rfl ?_
        rw [nI_add]
        refine R_baload (q := 87) rfl rfl md_101 (by decide) (by first | assumption | exact in_nI (by omega) (by decide)) ?_
        rw [cl_nI (by omega)]
        rw [hB' _ _ z x (by omega) hx]
        refine R_if_ne (q := 90) (t := 96) rfl rfl rfl (fun h87 => ?_) (fun h87 => ?_)
        · first
            | (have w := zb_eq0.mp h70
               exact hex (fun v => by rw [w] at v; exact absurd v.1 (by decide)))
            | (have w : bt (q.1 z) x = true := zb_ne0.mp h87
               exact hex (fun v => by rw [w] at v; exact absurd v.2 (by decide)))
        · refine R_iinc (q := 93) rfl rfl rfl (by rw [nI_i1 (z - y), show z - y + 1 = z + 1 - y by omega]) rfl ?_
          dsimp only [List.set]
          refine R_goto (t := 51) rfl rfl ?_
          have w1 := zb_ne0.mp h70
          have w2 : bt (q.1 z) x = false := zb_eq0.mp h87
          rw [if_pos ⟨w1, w2⟩] at hg
          exact ih (z + 1) _ (by omega) (by omega) hg
  have h3 : ∀ (j z : Nat) (t5 t6 : Option Value), z + j = 16 → x + 1 ≤ z → goR (bt (sh s y)) (bt (q.2.1 y)) j z = W → mm_R S (d + 2) 187 3 [some (.ref 73), some (.int (nI s)), some (.int (nI x)), some (.int (nI y)), some (.int (nI (z - x))), t5, t6] [] (mdm M (upa (upa A 106 MT) 107 PC) (upd I 44 (nI c))) (fun v M' => v = none ∧ ∃ MT', M' = (mdm M (upa (upa A 106 MT') 107 (up4 PC (4 * c) (nI x) (nI y) (nI (W - x)) (nI (H - y)))) (upd I 44 (nI (c + 1)))) ∧ ∀ r cc, r < 16 → cc < 16 → MT' (16 * r + cc) = if (x ≤ cc ∧ cc < W) ∧ y ≤ r ∧ r < H then nI 1 else MT (16 * r + cc)) := by
    intro j
    induction j with
    | zero =>
      intro z t5 t6 hz hyz hg
      have hz6 : z = 16 := by omega
      subst hz6
      have hg : 16 = W := hg
      subst hg
      refine R_iload_n (q := 4) rfl rfl rfl ?_
      refine R_iload (q := 6) rfl rfl rfl ?_
      refine R_iadd (q := 7) rfl rfl ?_
      rw [nI_add, show x + (16 - x) = 16 by omega]
      refine R_bipush (q := 9) (v := nI 16) rfl rfl (by decide) ?_
      refine R_icmp_ge (q := 12) (t := 48) rfl rfl rfl (fun h9 => ?_) (fun h9 => absurd (nI_le (by omega) (by omega)) h9)
      refine R_iconst (q := 49) (v := nI 1) rfl rfl (by decide) ?_
      refine R_istore (q := 51) rfl rfl (Nat.le_of_ble_eq_true rfl) rfl ?_
      dsimp only [List.set]
      have h0 := h51 (15 - y) (y + 1) t6 (by omega) (Nat.le_refl _) hH.symm
      rw [show y + 1 - y = 1 by omega] at h0
      exact h0
    | succ j ih =>
      intro z t5 t6 hz hyz hg
      have hgs : goR (bt (sh s y)) (bt (q.2.1 y)) (j + 1) z = if bt (sh s y) z = true ∧ bt (q.2.1 y) z = false then goR (bt (sh s y)) (bt (q.2.1 y)) j (z + 1) else z := rfl
      rw [hgs] at hg
      have hex : ¬ (bt (sh s y) z = true ∧ bt (q.2.1 y) z = false) → mm_R S (d + 2) 187 48 [some (.ref 73), some (.int (nI s)), some (.int (nI x)), some (.int (nI y)), some (.int (nI (z - x))), t5, t6] [] (mdm M (upa (upa A 106 MT) 107 PC) (upd I 44 (nI c))) (fun v M' => v = none ∧ ∃ MT', M' = (mdm M (upa (upa A 106 MT') 107 (up4 PC (4 * c) (nI x) (nI y) (nI (W - x)) (nI (H - y)))) (upd I 44 (nI (c + 1)))) ∧ ∀ r cc, r < 16 → cc < 16 → MT' (16 * r + cc) = if (x ≤ cc ∧ cc < W) ∧ y ≤ r ∧ r < H then nI 1 else MT (16 * r + cc)) := by
        intro hn
        rw [if_neg hn] at hg
        rw [hg]
        refine R_iconst (q := 49) (v := nI 1) rfl rfl (by decide) ?_
        refine R_istore (q := 51) rfl rfl (Nat.le_of_ble_eq_true rfl) rfl ?_
        dsimp only [List.set]
        have h0 := h51 (15 - y) (y + 1) t6 (by omega) (Nat.le_refl _) hH.symm
        rw [show y + 1 - y = 1 by omega] at h0
        exact h0
      refine R_iload_n (q := 4) rfl rfl rfl ?_
      refine R_iload (q := 6) rfl rfl rfl ?_
      refine R_iadd (q := 7) rfl rfl ?_
      rw [nI_add, show x + (z - x) = z by omega]
      refine R_bipush (q := 9) (v := nI 16) rfl rfl (by decide) ?_
      refine R_icmp_ge (q := 12) (t := 48) rfl rfl rfl (fun h9 => absurd h9 (nI_ge (by omega) (by omega))) (fun h9 => ?_)
      refine R_aload_n (q := 13) rfl rfl rfl ?_
      refine R_iload_n (q := 14) rfl rfl rfl ?_
      refine R_iload_n (q := 15) rfl rfl rfl ?_
      refine R_iload (q := 17) rfl rfl rfl ?_
      refine R_iadd (q := 18) rfl rfl ?_
      rw [nI_add, show x + (z - x) = z by omega]
      refine R_iload_n (q := 19) rfl rfl rfl ?_
      refine R_callv3 (q := 22) rfl rfl rfl rfl md_73 (Nat.le_of_ble_eq_true rfl) rfl ?_
      refine R_mono (m149 (rr1 _ _) hs6) (fun v19 M19 hr19 => ?_)
      obtain ⟨rfl, hm19⟩ := hr19
      rw [hm19]
      dsimp only [Option.toList, List.cons_append, List.nil_append]
      rw [hs_n (by omega) hy]
      refine R_if_eq (q := 25) (t := 48) rfl rfl rfl (fun h22 => ?_) (fun h22 => ?_)
      · first
          | (have w := zb_eq0.mp h22
             exact hex (fun v => by rw [w] at v; exact absurd v.1 (by decide)))
          | (have w : bt (q.2.1 y) z = true := zb_ne0.mp h39
             exact hex (fun v => by rw [w] at v; exact absurd v.2 (by decide)))
      · refine R_aload_n (q := 26) rfl rfl rfl ?_
        refine R_getf (q := 29) rfl rfl rfl md_73 rfl ?_
        refine R_bipush (q := 31) (v := nI 17) rfl rfl (by decide) ?_
        refine R_iload_n (q := 32) rfl rfl rfl ?_
        refine R_imul (q := 33) rfl rfl ?_
        rw [pk_mul]
        refine R_iload_n (q := 34) rfl rfl rfl ?_
        refine R_iadd (q := 35) rfl rfl ?_
        rw [nI_add]
        refine R_iload (q := 37) rfl rfl rfl ?_
        refine R_iadd (q := 38) rfl rfl ?_
        rw [nI_add, show 17 * y + x + (z - x) = 17 * y + z by omega]
        refine R_baload (q := 39) rfl rfl md_102 (by decide) (by first | assumption | exact in_nI (by omega) (by decide)) ?_
        rw [cl_nI (by omega)]
        rw [hL' _ _ y z hy (by omega)]
        refine R_if_ne (q := 42) (t := 48) rfl rfl rfl (fun h39 => ?_) (fun h39 => ?_)
        · first
            | (have w := zb_eq0.mp h22
               exact hex (fun v => by rw [w] at v; exact absurd v.1 (by decide)))
            | (have w : bt (q.2.1 y) z = true := zb_ne0.mp h39
               exact hex (fun v => by rw [w] at v; exact absurd v.2 (by decide)))
        · refine R_iinc (q := 45) rfl rfl rfl (by rw [nI_i1 (z - x), show z - x + 1 = z + 1 - x by omega]) rfl ?_
          dsimp only [List.set]
          refine R_goto (t := 3) rfl rfl ?_
          have w1 := zb_ne0.mp h22
          have w2 : bt (q.2.1 y) z = false := zb_eq0.mp h39
          rw [if_pos ⟨w1, w2⟩] at hg
          exact ih (z + 1) _ _ (by omega) (by omega) hg
  refine R_iconst (q := 1) (v := nI 1) rfl rfl (by decide) ?_
  refine R_istore (q := 3) rfl rfl (Nat.le_of_ble_eq_true rfl) rfl ?_
  dsimp only [List.set]
  have h0 := h3 (15 - x) (x + 1) none none (by omega) (Nat.le_refl _) hW.symm
  rw [show x + 1 - x = 1 by omega] at h0
  exact h0
end P71
