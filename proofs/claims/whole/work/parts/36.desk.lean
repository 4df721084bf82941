/-! ===== the desk: what stands in the cells 1 .. 72 between two calls ===== -/
abbrev OS : Type := Nat × (Nat → Int32) × (Nat → Int32)
/-- boxes, placements, their fields, what is due (1 turn, 2 x, 3 y, 4 dx, 5 dy) -/
abbrev LYS : Type := (Nat → Nat) × (Nat → Nat) × (Nat → Nat → Int32) × (Nat → Nat → Int32) × (Nat → Int32)
def oX (p : Nat → Int32) (i : Nat) : Nat := (p i).toNatClampNeg
def hb (v : Int32) : Prop := ∀ i, 16 ≤ i → bt v i = false
def Q0 (M : mm_M) : Prop := M.1 1 = some (.inr (11, [.ref 2, .ref 3, .ref 5, .ref 8, .ref 30, .ref 35, .ref 42, .ref 49, .ref 51, .ref 53, .ref 55, .ref 60])) ∧ ∃ sf, M.1 2 = some (.inl (2, 6, .inr (.inr (.inr (.inr sf))))) ∧ ∀ s, s < 6 → sf s = some (61 + 2 * s)
def Qs (M : mm_M) : Prop := ∃ g, CA M 3 g
def Qo (M : mm_M) (o : OS) : Prop := OL M 5 o.1 o.2.1 o.2.2 ∧ (∀ i, i < o.1 → o.2.1 i = nI (oX o.2.1 i) ∧ oX o.2.1 i ≤ 16) ∧ ∀ i, i < o.1 → o.2.2 i = nI (oX o.2.2 i) ∧ oX o.2.2 i ≤ 16
def nwk (nw : Nat → Int32) : Prop := (nw 1 = nI (oX nw 1) ∧ oX nw 1 < 8) ∧ (sm (nw 2) ∧ sm (nw 3)) ∧ sm (nw 4) ∧ sm (nw 5)
def Ql (M : mm_M) (l : LYS) : Prop := LYH M ∧ LYP M l.1 l.2.1 l.2.2.1 l.2.2.2.1 ∧ LYV l.1 l.2.1 l.2.2.1 l.2.2.2.1 ∧ (∃ tt, M.1 10 = some (.inl (0, 6, .inl tt))) ∧ (∃ cm, M.1 11 = some (.inl (0, 8, .inl cm)) ∧ ∀ f, 1 ≤ f → f ≤ 5 → cm f = l.2.2.2.2 f) ∧ nwk l.2.2.2.2
def Qv (M : mm_M) : Prop := SVF M ∧ (∃ f, M.1 32 = some (ro f)) ∧ ∃ f, M.1 34 = some (ro f)
def Qc (M : mm_M) : Prop := ∃ co ln st en to pa n lv ch tr, CHF M co ln st en to pa n lv ch tr ∧ okp pa
def Qu (M : mm_M) : Prop := CUF M ∧ (∃ a b c d, M.1 43 = some (ia 17 a) ∧ M.1 44 = some (ia 17 b) ∧ M.1 45 = some (ia 17 c) ∧ M.1 46 = some (ia 17 d)) ∧ M.1 47 = some (.inr (0, [.ref 48])) ∧ ∃ l, M.1 48 = some (ro l)
def Qp (M : mm_M) (a : Nat) (s : IS) : Prop := IT M a s.1 s.2
def Qt (M : mm_M) (s : IS) : Prop := TP M 53 s.1 s.2 ∧ ∀ i, i < s.1 → 0 ≤ (s.2 i).toInt ∧ (s.2 i).toInt ≤ 255
def Qw (M : mm_M) : Prop := ∃ (s : ES) (g : GS), s.1.1 ≤ 400 ∧ M.1 55 = some (twh g.1 s.2) ∧ M.1 56 = some (tph s.1.1) ∧ M.1 57 = some (ia 400 s.1.2) ∧ M.1 58 = some (ia 256 g.2.1) ∧ M.1 59 = some (ia 256 g.2.2)
def Qr (M : mm_M) : Prop := ∃ r, M.1 60 = some (rdl r)
def Qh (M : mm_M) (sh : Nat → Nat → Int32) : Prop := ∀ s, s < 6 → CA M (61 + 2 * s) (sh s) ∧ ∀ y, y < 16 → hb (sh s y)
def CI (M : mm_M) (sh : Nat → Nat → Int32) (o : OS) (l : LYS) (pi fa tp : IS) : Prop := Q0 M ∧ Qs M ∧ Qo M o ∧ Ql M l ∧ Qv M ∧ Qc M ∧ Qu M ∧ Qp M 49 pi ∧ Qp M 51 fa ∧ Qt M tp ∧ Qw M ∧ Qr M ∧ Qh M sh
/-- the other side's cells stay, and so does what is made -/
def FR (M M' : mm_M) : Prop := M'.2 = M.2 ∧ ∀ k, 73 ≤ k → M'.1 k = M.1 k
theorem FR_r {M : mm_M} : FR M M := ⟨rfl, fun _ _ => rfl⟩
theorem FR_t {M M1 M2 : mm_M} (h : FR M M1) (g : FR M1 M2) : FR M M2 := ⟨g.1.trans h.1, fun k hk => (g.2 k hk).trans (h.2 k hk)⟩
theorem FR_p {M : mm_M} {a : Nat} {c : mm_E} (h : a < 73) : FR M (mm_put M a c) := ⟨rfl, fun k hk => mm_pn (by omega)⟩
section P36
variable {M M' : mm_M} {sh : Nat → Nat → Int32} {o : OS} {l : LYS} {pi fa tp : IS}
theorem Q0_c (h : Q0 M) (g : ∀ k, 1 ≤ k → k ≤ 2 → M'.1 k = M.1 k) : Q0 M' := by
  obtain ⟨h1, sf, h2, h3⟩ := h
  exact ⟨by rw [g 1 (by decide) (by decide)]; exact h1, sf, by rw [g 2 (by decide) (by decide)]; exact h2, h3⟩
theorem Qs_c (h : Qs M) (g : ∀ k, 3 ≤ k → k ≤ 4 → M'.1 k = M.1 k) : Qs M' := by
  obtain ⟨f, h1⟩ := h
  exact ⟨f, ⟨by rw [g 3 (by decide) (by decide)]; exact h1.1, by rw [g (3 + 1) (by decide) (by decide)]; exact h1.2⟩⟩
theorem Qo_c (h : Qo M o) (g : ∀ k, 5 ≤ k → k ≤ 7 → M'.1 k = M.1 k) : Qo M' o := by
  obtain ⟨⟨h1, h2, h3, h4⟩, h5⟩ := h
  exact ⟨⟨by rw [g 5 (by decide) (by decide)]; exact h1, by rw [g (5 + 1) (by decide) (by decide)]; exact h2, by rw [g (5 + 2) (by decide) (by decide)]; exact h3, h4⟩, h5⟩
theorem LYH_c (h : LYH M) (g : ∀ k, 8 ≤ k → k ≤ 9 → M'.1 k = M.1 k) : LYH M' := by
  obtain ⟨h1, pf, h2, h3⟩ := h
  exact ⟨by rw [g 8 (by decide) (by decide)]; exact h1, pf, by rw [g 9 (by decide) (by decide)]; exact h2, h3⟩
theorem LYP_c {nb np : Nat → Nat} {bx pl : Nat → Nat → Int32} (h : LYP M nb np bx pl) (g : ∀ k, 12 ≤ k → k ≤ 29 → M'.1 k = M.1 k) : LYP M' nb np bx pl := by
  intro c hc
  obtain ⟨h1, h2, h3, h4⟩ := h c hc
  exact ⟨by rw [g _ (by omega) (by omega)]; exact h1, by rw [g _ (by omega) (by omega)]; exact h2, by rw [g _ (by omega) (by omega)]; exact h3, h4⟩
theorem Ql_c (h : Ql M l) (g : ∀ k, 8 ≤ k → k ≤ 29 → M'.1 k = M.1 k) : Ql M' l := by
  obtain ⟨h1, h2, h3, ⟨tt, h4⟩, ⟨cm, h5, h6⟩, h7⟩ := h
  exact ⟨LYH_c h1 (fun k a b => g k (by omega) (by omega)), LYP_c h2 (fun k a b => g k (by omega) (by omega)), h3, ⟨tt, by rw [g 10 (by decide) (by decide)]; exact h4⟩, ⟨cm, by rw [g 11 (by decide) (by decide)]; exact h5, h6⟩, h7⟩
theorem Qv_c (h : Qv M) (g : ∀ k, 30 ≤ k → k ≤ 34 → M'.1 k = M.1 k) : Qv M' := by
  obtain ⟨⟨h1, h2, h3⟩, ⟨f, h4⟩, f2, h5⟩ := h
  exact ⟨⟨by rw [g 30 (by decide) (by decide)]; exact h1, by rw [g 31 (by decide) (by decide)]; exact h2, by rw [g 33 (by decide) (by decide)]; exact h3⟩, ⟨f, by rw [g 32 (by decide) (by decide)]; exact h4⟩, f2, by rw [g 34 (by decide) (by decide)]; exact h5⟩
theorem Qc_c (h : Qc M) (g : ∀ k, 35 ≤ k → k ≤ 41 → M'.1 k = M.1 k) : Qc M' := by
  obtain ⟨co, ln, st, en, to, pa, n, lv, ch, tr, ⟨h1, h2, h3, h4, h5, h6, h7⟩, h8⟩ := h
  exact ⟨co, ln, st, en, to, pa, n, lv, ch, tr, ⟨by rw [g 35 (by decide) (by decide)]; exact h1, by rw [g 36 (by decide) (by decide)]; exact h2, by rw [g 37 (by decide) (by decide)]; exact h3, by rw [g 38 (by decide) (by decide)]; exact h4, by rw [g 39 (by decide) (by decide)]; exact h5, by rw [g 40 (by decide) (by decide)]; exact h6, by rw [g 41 (by decide) (by decide)]; exact h7⟩, h8⟩
theorem Qu_c (h : Qu M) (g : ∀ k, 42 ≤ k → k ≤ 48 → M'.1 k = M.1 k) : Qu M' := by
  obtain ⟨h1, ⟨a, b, c, d, h2, h3, h4, h5⟩, h6, l, h7⟩ := h
  refine ⟨?_, ⟨a, b, c, d, by rw [g 43 (by decide) (by decide)]; exact h2, by rw [g 44 (by decide) (by decide)]; exact h3, by rw [g 45 (by decide) (by decide)]; exact h4, by rw [g 46 (by decide) (by decide)]; exact h5⟩, by rw [g 47 (by decide) (by decide)]; exact h6, l, by rw [g 48 (by decide) (by decide)]; exact h7⟩
  unfold CUF
  rw [g 42 (by decide) (by decide)]
  exact h1
theorem Qp_c {a : Nat} {s : IS} (h : Qp M a s) (g : ∀ k, a ≤ k → k ≤ a + 1 → M'.1 k = M.1 k) : Qp M' a s := ⟨by rw [g a (by omega) (by omega)]; exact h.1, by rw [g (a + 1) (by omega) (by omega)]; exact h.2.1, h.2.2⟩
theorem Qt_c {s : IS} (h : Qt M s) (g : ∀ k, 53 ≤ k → k ≤ 54 → M'.1 k = M.1 k) : Qt M' s := ⟨⟨by rw [g 53 (by omega) (by omega)]; exact h.1.1, by rw [g (53 + 1) (by omega) (by omega)]; exact h.1.2.1, h.1.2.2⟩, h.2⟩
theorem Qw_c (h : Qw M) (g : ∀ k, 55 ≤ k → k ≤ 59 → M'.1 k = M.1 k) : Qw M' := by
  obtain ⟨s, u, h0, h1, h2, h3, h4, h5⟩ := h
  exact ⟨s, u, h0, by rw [g 55 (by decide) (by decide)]; exact h1, by rw [g 56 (by decide) (by decide)]; exact h2, by rw [g 57 (by decide) (by decide)]; exact h3, by rw [g 58 (by decide) (by decide)]; exact h4, by rw [g 59 (by decide) (by decide)]; exact h5⟩
theorem Qr_c (h : Qr M) (g : ∀ k, 60 ≤ k → k ≤ 60 → M'.1 k = M.1 k) : Qr M' := by
  obtain ⟨r, h1⟩ := h
  exact ⟨r, by rw [g 60 (by decide) (by decide)]; exact h1⟩
theorem Qh_c (h : Qh M sh) (g : ∀ k, 61 ≤ k → k ≤ 72 → M'.1 k = M.1 k) : Qh M' sh := by
  intro s hs
  obtain ⟨⟨h1, h2⟩, h3⟩ := h s hs
  exact ⟨⟨by rw [g _ (by omega) (by omega)]; exact h1, by rw [g _ (by omega) (by omega)]; exact h2⟩, h3⟩
def ups (sh : Nat → Nat → Int32) (s : Nat) (f : Nat → Int32) : Nat → Nat → Int32 := fun k => if k = s then f else sh k
theorem Qh_p {s : Nat} {f : Nat → Int32} (h : Qh M sh) (hs : s < 6) (hf : ∀ y, y < 16 → hb (f y)) : Qh (mm_put M (61 + 2 * s + 1) (ro f)) (ups sh s f) := by
  intro k hk
  obtain ⟨⟨h1, h2⟩, h3⟩ := h k hk
  unfold ups
  by_cases hq : k = s
  · subst hq
    rw [if_pos rfl]
    exact ⟨⟨by rw [mm_pn (by omega)]; exact h1, mm_pe⟩, hf⟩
  · rw [if_neg hq]
    exact ⟨⟨by rw [mm_pn (by omega)]; exact h1, by rw [mm_pn (by omega)]; exact h2⟩, h3⟩
theorem CI_s  (h : CI M sh o l pi fa tp) (q : Qs M') (g : ∀ k, k < 3 ∨ 4 < k → M'.1 k = M.1 k) : CI M' sh o l pi fa tp := by
  obtain ⟨h0, h1, h2, h3, h4, h5, h6, h7, h8, h9, h10, h11, h12⟩ := h
  exact ⟨Q0_c h0 (fun k h1 h2 => g k (by omega)), q, Qo_c h2 (fun k h1 h2 => g k (by omega)), Ql_c h3 (fun k h1 h2 => g k (by omega)), Qv_c h4 (fun k h1 h2 => g k (by omega)), Qc_c h5 (fun k h1 h2 => g k (by omega)), Qu_c h6 (fun k h1 h2 => g k (by omega)), Qp_c h7 (fun k h1 h2 => g k (by omega)), Qp_c h8 (fun k h1 h2 => g k (by omega)), Qt_c h9 (fun k h1 h2 => g k (by omega)), Qw_c h10 (fun k h1 h2 => g k (by omega)), Qr_c h11 (fun k h1 h2 => g k (by omega)), Qh_c h12 (fun k h1 h2 => g k (by omega))⟩
theorem CI_o {o' : OS} (h : CI M sh o l pi fa tp) (q : Qo M' o') (g : ∀ k, k < 5 ∨ 7 < k → M'.1 k = M.1 k) : CI M' sh o' l pi fa tp := by
  obtain ⟨h0, h1, h2, h3, h4, h5, h6, h7, h8, h9, h10, h11, h12⟩ := h
  exact ⟨Q0_c h0 (fun k h1 h2 => g k (by omega)), Qs_c h1 (fun k h1 h2 => g k (by omega)), q, Ql_c h3 (fun k h1 h2 => g k (by omega)), Qv_c h4 (fun k h1 h2 => g k (by omega)), Qc_c h5 (fun k h1 h2 => g k (by omega)), Qu_c h6 (fun k h1 h2 => g k (by omega)), Qp_c h7 (fun k h1 h2 => g k (by omega)), Qp_c h8 (fun k h1 h2 => g k (by omega)), Qt_c h9 (fun k h1 h2 => g k (by omega)), Qw_c h10 (fun k h1 h2 => g k (by omega)), Qr_c h11 (fun k h1 h2 => g k (by omega)), Qh_c h12 (fun k h1 h2 => g k (by omega))⟩
theorem CI_l {l' : LYS} (h : CI M sh o l pi fa tp) (q : Ql M' l') (g : ∀ k, k < 8 ∨ 29 < k → M'.1 k = M.1 k) : CI M' sh o l' pi fa tp := by
  obtain ⟨h0, h1, h2, h3, h4, h5, h6, h7, h8, h9, h10, h11, h12⟩ := h
  exact ⟨Q0_c h0 (fun k h1 h2 => g k (by omega)), Qs_c h1 (fun k h1 h2 => g k (by omega)), Qo_c h2 (fun k h1 h2 => g k (by omega)), q, Qv_c h4 (fun k h1 h2 => g k (by omega)), Qc_c h5 (fun k h1 h2 => g k (by omega)), Qu_c h6 (fun k h1 h2 => g k (by omega)), Qp_c h7 (fun k h1 h2 => g k (by omega)), Qp_c h8 (fun k h1 h2 => g k (by omega)), Qt_c h9 (fun k h1 h2 => g k (by omega)), Qw_c h10 (fun k h1 h2 => g k (by omega)), Qr_c h11 (fun k h1 h2 => g k (by omega)), Qh_c h12 (fun k h1 h2 => g k (by omega))⟩
theorem CI_v  (h : CI M sh o l pi fa tp) (q : Qv M') (g : ∀ k, k < 30 ∨ 34 < k → M'.1 k = M.1 k) : CI M' sh o l pi fa tp := by
  obtain ⟨h0, h1, h2, h3, h4, h5, h6, h7, h8, h9, h10, h11, h12⟩ := h
  exact ⟨Q0_c h0 (fun k h1 h2 => g k (by omega)), Qs_c h1 (fun k h1 h2 => g k (by omega)), Qo_c h2 (fun k h1 h2 => g k (by omega)), Ql_c h3 (fun k h1 h2 => g k (by omega)), q, Qc_c h5 (fun k h1 h2 => g k (by omega)), Qu_c h6 (fun k h1 h2 => g k (by omega)), Qp_c h7 (fun k h1 h2 => g k (by omega)), Qp_c h8 (fun k h1 h2 => g k (by omega)), Qt_c h9 (fun k h1 h2 => g k (by omega)), Qw_c h10 (fun k h1 h2 => g k (by omega)), Qr_c h11 (fun k h1 h2 => g k (by omega)), Qh_c h12 (fun k h1 h2 => g k (by omega))⟩
theorem CI_c  (h : CI M sh o l pi fa tp) (q : Qc M') (g : ∀ k, k < 35 ∨ 41 < k → M'.1 k = M.1 k) : CI M' sh o l pi fa tp := by
  obtain ⟨h0, h1, h2, h3, h4, h5, h6, h7, h8, h9, h10, h11, h12⟩ := h
  exact ⟨Q0_c h0 (fun k h1 h2 => g k (by omega)), Qs_c h1 (fun k h1 h2 => g k (by omega)), Qo_c h2 (fun k h1 h2 => g k (by omega)), Ql_c h3 (fun k h1 h2 => g k (by omega)), Qv_c h4 (fun k h1 h2 => g k (by omega)), q, Qu_c h6 (fun k h1 h2 => g k (by omega)), Qp_c h7 (fun k h1 h2 => g k (by omega)), Qp_c h8 (fun k h1 h2 => g k (by omega)), Qt_c h9 (fun k h1 h2 => g k (by omega)), Qw_c h10 (fun k h1 h2 => g k (by omega)), Qr_c h11 (fun k h1 h2 => g k (by omega)), Qh_c h12 (fun k h1 h2 => g k (by omega))⟩
theorem CI_u  (h : CI M sh o l pi fa tp) (q : Qu M') (g : ∀ k, k < 42 ∨ 48 < k → M'.1 k = M.1 k) : CI M' sh o l pi fa tp := by
  obtain ⟨h0, h1, h2, h3, h4, h5, h6, h7, h8, h9, h10, h11, h12⟩ := h
  exact ⟨Q0_c h0 (fun k h1 h2 => g k (by omega)), Qs_c h1 (fun k h1 h2 => g k (by omega)), Qo_c h2 (fun k h1 h2 => g k (by omega)), Ql_c h3 (fun k h1 h2 => g k (by omega)), Qv_c h4 (fun k h1 h2 => g k (by omega)), Qc_c h5 (fun k h1 h2 => g k (by omega)), q, Qp_c h7 (fun k h1 h2 => g k (by omega)), Qp_c h8 (fun k h1 h2 => g k (by omega)), Qt_c h9 (fun k h1 h2 => g k (by omega)), Qw_c h10 (fun k h1 h2 => g k (by omega)), Qr_c h11 (fun k h1 h2 => g k (by omega)), Qh_c h12 (fun k h1 h2 => g k (by omega))⟩
theorem CI_pi {pi' : IS} (h : CI M sh o l pi fa tp) (q : Qp M' 49 pi') (g : ∀ k, k < 49 ∨ 50 < k → M'.1 k = M.1 k) : CI M' sh o l pi' fa tp := by
  obtain ⟨h0, h1, h2, h3, h4, h5, h6, h7, h8, h9, h10, h11, h12⟩ := h
  exact ⟨Q0_c h0 (fun k h1 h2 => g k (by omega)), Qs_c h1 (fun k h1 h2 => g k (by omega)), Qo_c h2 (fun k h1 h2 => g k (by omega)), Ql_c h3 (fun k h1 h2 => g k (by omega)), Qv_c h4 (fun k h1 h2 => g k (by omega)), Qc_c h5 (fun k h1 h2 => g k (by omega)), Qu_c h6 (fun k h1 h2 => g k (by omega)), q, Qp_c h8 (fun k h1 h2 => g k (by omega)), Qt_c h9 (fun k h1 h2 => g k (by omega)), Qw_c h10 (fun k h1 h2 => g k (by omega)), Qr_c h11 (fun k h1 h2 => g k (by omega)), Qh_c h12 (fun k h1 h2 => g k (by omega))⟩
theorem CI_fa {fa' : IS} (h : CI M sh o l pi fa tp) (q : Qp M' 51 fa') (g : ∀ k, k < 51 ∨ 52 < k → M'.1 k = M.1 k) : CI M' sh o l pi fa' tp := by
  obtain ⟨h0, h1, h2, h3, h4, h5, h6, h7, h8, h9, h10, h11, h12⟩ := h
  exact ⟨Q0_c h0 (fun k h1 h2 => g k (by omega)), Qs_c h1 (fun k h1 h2 => g k (by omega)), Qo_c h2 (fun k h1 h2 => g k (by omega)), Ql_c h3 (fun k h1 h2 => g k (by omega)), Qv_c h4 (fun k h1 h2 => g k (by omega)), Qc_c h5 (fun k h1 h2 => g k (by omega)), Qu_c h6 (fun k h1 h2 => g k (by omega)), Qp_c h7 (fun k h1 h2 => g k (by omega)), q, Qt_c h9 (fun k h1 h2 => g k (by omega)), Qw_c h10 (fun k h1 h2 => g k (by omega)), Qr_c h11 (fun k h1 h2 => g k (by omega)), Qh_c h12 (fun k h1 h2 => g k (by omega))⟩
theorem CI_t {tp' : IS} (h : CI M sh o l pi fa tp) (q : Qt M' tp') (g : ∀ k, k < 53 ∨ 54 < k → M'.1 k = M.1 k) : CI M' sh o l pi fa tp' := by
  obtain ⟨h0, h1, h2, h3, h4, h5, h6, h7, h8, h9, h10, h11, h12⟩ := h
  exact ⟨Q0_c h0 (fun k h1 h2 => g k (by omega)), Qs_c h1 (fun k h1 h2 => g k (by omega)), Qo_c h2 (fun k h1 h2 => g k (by omega)), Ql_c h3 (fun k h1 h2 => g k (by omega)), Qv_c h4 (fun k h1 h2 => g k (by omega)), Qc_c h5 (fun k h1 h2 => g k (by omega)), Qu_c h6 (fun k h1 h2 => g k (by omega)), Qp_c h7 (fun k h1 h2 => g k (by omega)), Qp_c h8 (fun k h1 h2 => g k (by omega)), q, Qw_c h10 (fun k h1 h2 => g k (by omega)), Qr_c h11 (fun k h1 h2 => g k (by omega)), Qh_c h12 (fun k h1 h2 => g k (by omega))⟩
theorem CI_w  (h : CI M sh o l pi fa tp) (q : Qw M') (g : ∀ k, k < 55 ∨ 59 < k → M'.1 k = M.1 k) : CI M' sh o l pi fa tp := by
  obtain ⟨h0, h1, h2, h3, h4, h5, h6, h7, h8, h9, h10, h11, h12⟩ := h
  exact ⟨Q0_c h0 (fun k h1 h2 => g k (by omega)), Qs_c h1 (fun k h1 h2 => g k (by omega)), Qo_c h2 (fun k h1 h2 => g k (by omega)), Ql_c h3 (fun k h1 h2 => g k (by omega)), Qv_c h4 (fun k h1 h2 => g k (by omega)), Qc_c h5 (fun k h1 h2 => g k (by omega)), Qu_c h6 (fun k h1 h2 => g k (by omega)), Qp_c h7 (fun k h1 h2 => g k (by omega)), Qp_c h8 (fun k h1 h2 => g k (by omega)), Qt_c h9 (fun k h1 h2 => g k (by omega)), q, Qr_c h11 (fun k h1 h2 => g k (by omega)), Qh_c h12 (fun k h1 h2 => g k (by omega))⟩
theorem CI_r  (h : CI M sh o l pi fa tp) (q : Qr M') (g : ∀ k, k < 60 ∨ 60 < k → M'.1 k = M.1 k) : CI M' sh o l pi fa tp := by
  obtain ⟨h0, h1, h2, h3, h4, h5, h6, h7, h8, h9, h10, h11, h12⟩ := h
  exact ⟨Q0_c h0 (fun k h1 h2 => g k (by omega)), Qs_c h1 (fun k h1 h2 => g k (by omega)), Qo_c h2 (fun k h1 h2 => g k (by omega)), Ql_c h3 (fun k h1 h2 => g k (by omega)), Qv_c h4 (fun k h1 h2 => g k (by omega)), Qc_c h5 (fun k h1 h2 => g k (by omega)), Qu_c h6 (fun k h1 h2 => g k (by omega)), Qp_c h7 (fun k h1 h2 => g k (by omega)), Qp_c h8 (fun k h1 h2 => g k (by omega)), Qt_c h9 (fun k h1 h2 => g k (by omega)), Qw_c h10 (fun k h1 h2 => g k (by omega)), q, Qh_c h12 (fun k h1 h2 => g k (by omega))⟩
theorem CI_h {sh' : Nat → Nat → Int32} (h : CI M sh o l pi fa tp) (q : Qh M' sh') (g : ∀ k, k < 61 ∨ 72 < k → M'.1 k = M.1 k) : CI M' sh' o l pi fa tp := by
  obtain ⟨h0, h1, h2, h3, h4, h5, h6, h7, h8, h9, h10, h11, h12⟩ := h
  exact ⟨Q0_c h0 (fun k h1 h2 => g k (by omega)), Qs_c h1 (fun k h1 h2 => g k (by omega)), Qo_c h2 (fun k h1 h2 => g k (by omega)), Ql_c h3 (fun k h1 h2 => g k (by omega)), Qv_c h4 (fun k h1 h2 => g k (by omega)), Qc_c h5 (fun k h1 h2 => g k (by omega)), Qu_c h6 (fun k h1 h2 => g k (by omega)), Qp_c h7 (fun k h1 h2 => g k (by omega)), Qp_c h8 (fun k h1 h2 => g k (by omega)), Qt_c h9 (fun k h1 h2 => g k (by omega)), Qw_c h10 (fun k h1 h2 => g k (by omega)), Qr_c h11 (fun k h1 h2 => g k (by omega)), q⟩
end P36
