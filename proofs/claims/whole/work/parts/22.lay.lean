/-! ===== laying out ===== -/
abbrev R4 : Type := Int32 × Int32 × Int32 × Int32
def on4 (r : R4) : Bool := decide ((0 ≤ r.1.toInt ∧ 1 ≤ r.2.2.1.toInt ∧ r.1.toInt + r.2.2.1.toInt ≤ 16) ∧ 0 ≤ r.2.1.toInt ∧ 1 ≤ r.2.2.2.toInt ∧ r.2.1.toInt + r.2.2.2.toInt ≤ 16)
def add4 (f : Nat → Int32) (r : R4) : Nat → Int32 := ifr (fun i => f i ||| spn r.1.toNatClampNeg (r.1.toNatClampNeg + r.2.2.1.toNatClampNeg)) f r.2.1.toNatClampNeg (r.2.1.toNatClampNeg + r.2.2.2.toNatClampNeg)
def rct (p : Nat → Int32) (i t : Nat) (x y : Int32) : R4 :=
  let x1 := x + tX t (p (i * 4 + 0)) (p (i * 4 + 1))
  let y1 := y + tY t (p (i * 4 + 0)) (p (i * 4 + 1))
  let x2 := x + tX t (p (i * 4 + 0) + p (i * 4 + 2)) (p (i * 4 + 1) + p (i * 4 + 3))
  let y2 := y + tY t (p (i * 4 + 0) + p (i * 4 + 2)) (p (i * 4 + 1) + p (i * 4 + 3))
  (if x2 < x1 then x2 else x1, if y2 < y1 then y2 else y1, if 0 ≤ x2 - x1 then x2 - x1 else 0 - (x2 - x1), if 0 ≤ y2 - y1 then y2 - y1 else 0 - (y2 - y1))
set_option maxRecDepth 8000 in
theorem c12b {S : mm_S} {d : Nat} {M : mm_M} {a : Nat} {f : Nat → Int32} {r : R4} (hr : on4 r = true) (ha : CA M a f) : mm_R S (d + 1) 12 0 (mm_en 12 [.ref a, .int r.1, .int r.2.1, .int r.2.2.1, .int r.2.2.2]) [] M (fun v M' => v = none ∧ M' = mm_put M (a + 1) (ro (add4 f r))) := by
  obtain ⟨rx, ry, rw, rh⟩ := r
  have h := of_decide_eq_true hr
  dsimp only at h
  obtain ⟨x, hx, rfl⟩ := i_ix (a := rx) 16 (by decide) (by omega) (by omega)
  obtain ⟨y, hy, rfl⟩ := i_ix (a := ry) 16 (by decide) (by omega) (by omega)
  obtain ⟨w, hw, rfl⟩ := i_ix (a := rw) 17 (by decide) (by omega) (by omega)
  obtain ⟨hh, hhh, rfl⟩ := i_ix (a := rh) 17 (by decide) (by omega) (by omega)
  rw [i_n x (by omega), i_n y (by omega), i_n w (by omega), i_n hh (by omega)] at h
  have g := c12 (S := S) (d := d) (M := M) (x := x) (y := y) (w := w) (h := hh) (by omega) (by omega) ha
  unfold add4
  dsimp only
  rw [cl_nI (by omega), cl_nI (by omega), cl_nI (by omega), cl_nI (by omega)]
  exact g
section P22
variable {S : mm_S} {d : Nat} {nb np : Nat → Nat} {bx pl : Nat → Nat → Int32}
set_option maxRecDepth 8000 in
theorem c63 {M : mm_M} {a i t : Nat} {nb0 np0 : Nat} {bx0 pl0 g : Nat → Int32} {x y : Int32} (hp : PT M a nb0 np0 bx0 pl0) (hi : i < 6) (ht : t < 8) (hg : CA M 3 g) : mm_R S (d + 2) 63 0 (mm_en 63 [.ref a, .int (nI i), .int (nI t), .int x, .int y, .ref 3]) [] M (fun v M' => v = some (.int (zb (on4 (rct bx0 i t x y)))) ∧ M' = if on4 (rct bx0 i t x y) = true then mm_put M 4 (ro (add4 g (rct bx0 i t x y))) else M) := by
  obtain ⟨p1, p2, p3, p4, p5⟩ := id hp
  have hg1 := hg.1
  show mm_R S (d + 2) 63 0 [some (.ref a), some (.int (nI i)), some (.int (nI t)), some (.int x), some (.int y), some (.ref 3), none, none, none, none, none, none, none, none, none, none] [] M _
  refine R_aload_n (q := 1) rfl rfl rfl ?_
  refine R_iload_n (q := 2) rfl rfl rfl ?_
  refine R_iconst (q := 3) (v := nI 0) rfl rfl (by decide) ?_
  refine R_callv2 (q := 6) rfl rfl rfl rfl p1 (Nat.le_of_ble_eq_true rfl) rfl ?_
  refine R_mono (c81 (q := 0) hp (by omega)) (fun v3 M3 hr3 => ?_)
  obtain ⟨rfl, hm3⟩ := hr3
  rw [hm3]
  dsimp only [Option.toList, List.cons_append, List.nil_append]
  refine R_istore (q := 8) rfl rfl (Nat.le_of_ble_eq_true rfl) rfl ?_
  dsimp only [List.set]
  refine R_aload_n (q := 9) rfl rfl rfl ?_
  refine R_iload_n (q := 10) rfl rfl rfl ?_
  refine R_iconst (q := 11) (v := nI 1) rfl rfl (by decide) ?_
  refine R_callv2 (q := 14) rfl rfl rfl rfl p1 (Nat.le_of_ble_eq_true rfl) rfl ?_
  refine R_mono (c81 (q := 1) hp (by omega)) (fun v11 M11 hr11 => ?_)
  obtain ⟨rfl, hm11⟩ := hr11
  rw [hm11]
  dsimp only [Option.toList, List.cons_append, List.nil_append]
  refine R_istore (q := 16) rfl rfl (Nat.le_of_ble_eq_true rfl) rfl ?_
  dsimp only [List.set]
  refine R_iload (q := 18) rfl rfl rfl ?_
  refine R_aload_n (q := 19) rfl rfl rfl ?_
  refine R_iload_n (q := 20) rfl rfl rfl ?_
  refine R_iconst (q := 21) (v := nI 2) rfl rfl (by decide) ?_
  refine R_callv2 (q := 24) rfl rfl rfl rfl p1 (Nat.le_of_ble_eq_true rfl) rfl ?_
  refine R_mono (c81 (q := 2) hp (by omega)) (fun v21 M21 hr21 => ?_)
  obtain ⟨rfl, hm21⟩ := hr21
  rw [hm21]
  dsimp only [Option.toList, List.cons_append, List.nil_append]
  refine R_iadd (q := 25) rfl rfl ?_
  refine R_istore (q := 27) rfl rfl (Nat.le_of_ble_eq_true rfl) rfl ?_
  dsimp only [List.set]
  refine R_iload (q := 29) rfl rfl rfl ?_
  refine R_aload_n (q := 30) rfl rfl rfl ?_
  refine R_iload_n (q := 31) rfl rfl rfl ?_
  refine R_iconst (q := 32) (v := nI 3) rfl rfl (by decide) ?_
  refine R_callv2 (q := 35) rfl rfl rfl rfl p1 (Nat.le_of_ble_eq_true rfl) rfl ?_
  refine R_mono (c81 (q := 3) hp (by omega)) (fun v32 M32 hr32 => ?_)
  obtain ⟨rfl, hm32⟩ := hr32
  rw [hm32]
  dsimp only [Option.toList, List.cons_append, List.nil_append]
  refine R_iadd (q := 36) rfl rfl ?_
  refine R_istore (q := 38) rfl rfl (Nat.le_of_ble_eq_true rfl) rfl ?_
  dsimp only [List.set]
  refine R_iload_n (q := 39) rfl rfl rfl ?_
  refine R_iload_n (q := 40) rfl rfl rfl ?_
  refine R_iload (q := 42) rfl rfl rfl ?_
  refine R_iload (q := 44) rfl rfl rfl ?_
  refine R_calls3 (q := 47) rfl rfl rfl rfl (Nat.le_of_ble_eq_true rfl) rfl ?_
  refine R_mono (c64 ht) (fun v44 M44 hr44 => ?_)
  obtain ⟨rfl, hm44⟩ := hr44
  rw [hm44]
  dsimp only [Option.toList, List.cons_append, List.nil_append]
  refine R_iadd (q := 48) rfl rfl ?_
  refine R_istore (q := 50) rfl rfl (Nat.le_of_ble_eq_true rfl) rfl ?_
  dsimp only [List.set]
  refine R_iload (q := 52) rfl rfl rfl ?_
  refine R_iload_n (q := 53) rfl rfl rfl ?_
  refine R_iload (q := 55) rfl rfl rfl ?_
  refine R_iload (q := 57) rfl rfl rfl ?_
  refine R_calls3 (q := 60) rfl rfl rfl rfl (Nat.le_of_ble_eq_true rfl) rfl ?_
  refine R_mono (c65 ht) (fun v57 M57 hr57 => ?_)
  obtain ⟨rfl, hm57⟩ := hr57
  rw [hm57]
  dsimp only [Option.toList, List.cons_append, List.nil_append]
  refine R_iadd (q := 61) rfl rfl ?_
  refine R_istore (q := 63) rfl rfl (Nat.le_of_ble_eq_true rfl) rfl ?_
  dsimp only [List.set]
  refine R_iload_n (q := 64) rfl rfl rfl ?_
  refine R_iload_n (q := 65) rfl rfl rfl ?_
  refine R_iload (q := 67) rfl rfl rfl ?_
  refine R_iload (q := 69) rfl rfl rfl ?_
  refine R_calls3 (q := 72) rfl rfl rfl rfl (Nat.le_of_ble_eq_true rfl) rfl ?_
  refine R_mono (c64 ht) (fun v69 M69 hr69 => ?_)
  obtain ⟨rfl, hm69⟩ := hr69
  rw [hm69]
  dsimp only [Option.toList, List.cons_append, List.nil_append]
  refine R_iadd (q := 73) rfl rfl ?_
  refine R_istore (q := 75) rfl rfl (Nat.le_of_ble_eq_true rfl) rfl ?_
  dsimp only [List.set]
  refine R_iload (q := 77) rfl rfl rfl ?_
  refine R_iload_n (q := 78) rfl rfl rfl ?_
  refine R_iload (q := 80) rfl rfl rfl ?_
  refine R_iload (q := 82) rfl rfl rfl ?_
  refine R_calls3 (q := 85) rfl rfl rfl rfl (Nat.le_of_ble_eq_true rfl) rfl ?_
  refine R_mono (c65 ht) (fun v82 M82 hr82 => ?_)
  obtain ⟨rfl, hm82⟩ := hr82
  rw [hm82]
  dsimp only [Option.toList, List.cons_append, List.nil_append]
  refine R_iadd (q := 86) rfl rfl ?_
  refine R_istore (q := 88) rfl rfl (Nat.le_of_ble_eq_true rfl) rfl ?_
  dsimp only [List.set]
  refine R_iload (q := 90) rfl rfl rfl ?_
  refine R_iload (q := 92) rfl rfl rfl ?_
  refine R_isub (q := 93) rfl rfl ?_
  refine R_mabs (q := 96) rfl rfl (by decide +kernel) rfl (by omega) (Nat.le_of_ble_eq_true rfl) ?_
  refine R_istore (q := 98) rfl rfl (Nat.le_of_ble_eq_true rfl) rfl ?_
  dsimp only [List.set]
  refine R_iload (q := 100) rfl rfl rfl ?_
  refine R_iload (q := 102) rfl rfl rfl ?_
  refine R_isub (q := 103) rfl rfl ?_
  refine R_mabs (q := 106) rfl rfl (by decide +kernel) rfl (by omega) (Nat.le_of_ble_eq_true rfl) ?_
  refine R_istore (q := 108) rfl rfl (Nat.le_of_ble_eq_true rfl) rfl ?_
  dsimp only [List.set]
  refine R_iload (q := 110) rfl rfl rfl ?_
  refine R_iload (q := 112) rfl rfl rfl ?_
  refine R_mmin (q := 115) rfl rfl (by decide +kernel) rfl (by omega) (Nat.le_of_ble_eq_true rfl) ?_
  refine R_iload (q := 117) rfl rfl rfl ?_
  refine R_iload (q := 119) rfl rfl rfl ?_
  refine R_mmin (q := 122) rfl rfl (by decide +kernel) rfl (by omega) (Nat.le_of_ble_eq_true rfl) ?_
  refine R_iload (q := 124) rfl rfl rfl ?_
  refine R_iload (q := 126) rfl rfl rfl ?_
  refine R_calls4 (q := 129) rfl rfl rfl rfl (Nat.le_of_ble_eq_true rfl) rfl ?_
  refine R_mono (c143) (fun v126 M126 hr126 => ?_)
  obtain ⟨rfl, hm126⟩ := hr126
  rw [hm126]
  dsimp only [Option.toList, List.cons_append, List.nil_append]
  refine R_if_ne (q := 132) (t := 134) rfl rfl rfl (fun h129 => ?_) (fun h129 => ?_)
  · have hon : on4 (rct bx0 i t x y) = true := zb_ne0.mp h129
    refine R_aload (q := 136) rfl rfl rfl ?_
    refine R_iload (q := 138) rfl rfl rfl ?_
    refine R_iload (q := 140) rfl rfl rfl ?_
    refine R_mmin (q := 143) rfl rfl (by decide +kernel) rfl (by omega) (Nat.le_of_ble_eq_true rfl) ?_
    refine R_iload (q := 145) rfl rfl rfl ?_
    refine R_iload (q := 147) rfl rfl rfl ?_
    refine R_mmin (q := 150) rfl rfl (by decide +kernel) rfl (by omega) (Nat.le_of_ble_eq_true rfl) ?_
    refine R_iload (q := 152) rfl rfl rfl ?_
    refine R_iload (q := 154) rfl rfl rfl ?_
    refine R_callv4 (q := 157) rfl rfl rfl rfl hg1 (Nat.le_of_ble_eq_true rfl) rfl ?_
    refine R_mono (c12b (r := rct bx0 i t x y) hon hg) (fun v154 M154 hr154 => ?_)
    obtain ⟨rfl, hm154⟩ := hr154
    rw [hm154]
    dsimp only [Option.toList, List.cons_append, List.nil_append]
    refine R_iconst (q := 158) (v := nI 1) rfl rfl (by decide) ?_
    refine R_zreturn rfl rfl (by first | exact Or.inl rfl | exact Or.inr rfl | assumption) ?_
    rw [hon]
    exact ⟨rfl, (if_pos rfl).symm⟩
  · refine R_iconst (q := 133) (v := nI 0) rfl rfl (by decide) ?_
    refine R_zreturn rfl rfl (by first | exact Or.inl rfl | exact Or.inr rfl | assumption) ?_
    have hoff : on4 (rct bx0 i t x y) = false := zb_eq0.mp h129
    rw [hoff]
    exact ⟨rfl, (if_neg (by decide)).symm⟩
def pxv (p : Nat → Int32) (k i : Nat) : Int32 := p (k * 8 + 2) + nI i * p (k * 8 + 4)
def pyv (p : Nat → Int32) (k j : Nat) : Int32 := p (k * 8 + 3) + nI j * p (k * 8 + 5)
/-- what a part has, turned by t and moved by x, y (n above the part's number) -/
def rects (nb np : Nat → Nat) (bx pl : Nat → Nat → Int32) : Nat → Nat → Nat → Int32 → Int32 → List R4
  | 0, _, _, _, _ => []
  | n + 1, c, t, x, y => ((List.range (nb c)).map fun i => rct (bx c) i t x y) ++ (List.range (np c)).flatMap fun k => (List.range (pq (pl c) k 6)).flatMap fun i => (List.range (pq (pl c) k 7)).flatMap fun j => rects nb np bx pl n (pq (pl c) k 0) (tA (pq (pl c) k 1) t) (x + tX t (pxv (pl c) k i) (pyv (pl c) k j)) (y + tY t (pxv (pl c) k i) (pyv (pl c) k j))
def LR (l : List R4) (g : Nat → Int32) (M : mm_M) (v : Option Value) (M' : mm_M) : Prop := ∃ g', M' = mm_put M 4 (ro g') ∧ ((l.all on4 = true ∧ v = some (.int (nI 1)) ∧ g' = l.foldl add4 g) ∨ (l.all on4 = false ∧ v = some (.int (nI 0))))
theorem LR_bad {l l' : List R4} {g g' : Nat → Int32} {M : mm_M} (h : l'.all on4 = false) (hs : ∀ r ∈ l', r ∈ l) : LR l g M (some (.int (nI 0))) (mm_put M 4 (ro g')) := by
  refine ⟨g', rfl, Or.inr ⟨?_, rfl⟩⟩
  obtain ⟨r, hr, hf⟩ := List.all_eq_false.mp h
  exact List.all_eq_false.mpr ⟨r, hs r hr, hf⟩
/-- what stands in the cells while parts are laid out -/
def LF (M : mm_M) (nb np : Nat → Nat) (bx pl : Nat → Nat → Int32) (tt : Nat → Int32) : Prop := LYH M ∧ LYP M nb np bx pl ∧ M.1 10 = some (.inl (0, 6, .inl tt))
theorem LF_4 {M : mm_M} {tt : Nat → Int32} {c : mm_E} (h : LF M nb np bx pl tt) : LF (mm_put M 4 c) nb np bx pl tt := ⟨LYH_off h.1 (by omega), LYP_off h.2.1 (by omega), by rw [mm_pn (by omega)]; exact h.2.2⟩
theorem CA_34 {M : mm_M} {g g' : Nat → Int32} (h : CA M 3 g) : CA (mm_put M 4 (ro g')) 3 g' := CA_put h
def layP (S : mm_S) (d : Nat) (nb np : Nat → Nat) (bx pl : Nat → Nat → Int32) (tt : Nat → Int32) (top n : Nat) : Prop := ∀ (c t : Nat) (x y : Int32) (g : Nat → Int32) (M : mm_M), c < n → c ≤ top → t < 8 → LF M nb np bx pl tt → CA M 3 g → mm_R S (d + 3 + 2 * n) 61 0 (mm_en 61 [.ref 8, .int (nI c), .int (nI t), .int x, .int y, .ref 3]) [] M (LR (rects nb np bx pl n c t x y) g M)
set_option maxRecDepth 8000 in
theorem c62 {n top : Nat} {tt : Nat → Int32} (ih : layP S d nb np bx pl tt top n) (hv : LYV nb np bx pl) (htt : ∀ i, i ≤ top → ∃ T, T ≤ 201 ∧ tt i = nI T ∧ (T = 0 → ∀ t x y, rects nb np bx pl n i t x y = [])) {c k t : Nat} {x y : Int32} {g : Nat → Int32} {M : mm_M} (hc : c < n + 1) (hct : c ≤ top) (htop : top < 6) (hk : k < np c) (ht : t < 8) (hF : LF M nb np bx pl tt) (hg : CA M 3 g) : mm_R S (d + 3 + 2 * n + 1) 62 0 (mm_en 62 [.ref 8, .int (nI c), .int (nI k), .int (nI t), .int x, .int y, .ref 3]) [] M (LR ((List.range (pq (pl c) k 6)).flatMap fun i => (List.range (pq (pl c) k 7)).flatMap fun j => rects nb np bx pl n (pq (pl c) k 0) (tA (pq (pl c) k 1) t) (x + tX t (pxv (pl c) k i) (pyv (pl c) k j)) (y + tY t (pxv (pl c) k i) (pyv (pl c) k j))) g M) := by
  obtain ⟨⟨h1, pf, h2, hpf⟩, hp, h10⟩ := id hF
  have hp1 := hp c (by omega)
  obtain ⟨p1, p2, p3, p4, p5⟩ := id hp1
  have hci := in_nI (show c < 6 by omega) (by decide)
  obtain ⟨⟨q0, q0'⟩, ⟨q1, q1'⟩, -, -, ⟨q6, q6', q6''⟩, q7, q7', q7''⟩ := (hv c (by omega)).2 k hk
  obtain ⟨T, hT1, hT2, hT3⟩ := htt (pq (pl c) k 0) (by omega)
  have hq0i := in_nI (show pq (pl c) k 0 < 6 by omega) (by decide)
  have htA := (tA_ok (pq (pl c) k 1) q1' t ht).2
  generalize hRF : (fun i j => rects nb np bx pl n (pq (pl c) k 0) (tA (pq (pl c) k 1) t) (x + tX t (pxv (pl c) k i) (pyv (pl c) k j)) (y + tY t (pxv (pl c) k i) (pyv (pl c) k j))) = RF at *
  have hRF' : ∀ i j, rects nb np bx pl n (pq (pl c) k 0) (tA (pq (pl c) k 1) t) (x + tX t (pxv (pl c) k i) (pyv (pl c) k j)) (y + tY t (pxv (pl c) k i) (pyv (pl c) k j)) = RF i j := fun i j => by rw [← hRF]
  simp only [hRF']

  have hloop : mm_R S (d + 3 + 2 * n + 1) 62 53 [some (.ref 8), some (.int (nI c)), some (.int (nI k)), some (.int (nI t)), some (.int x), some (.int y), some (.ref 3), some (.ref (12 + 3 * c)), some (.int (nI (pq (pl c) k 0))), some (.int (nI (tA (pq (pl c) k 1) t))), some (.int (nI 0)), none, none, none, none, none] [] M (LR ((List.range (pq (pl c) k 6)).flatMap fun i => (List.range (pq (pl c) k 7)).flatMap fun j => RF i j) g M) := by
    refine R_atM (M' := mm_put M 4 (ro (((List.range 0).flatMap fun i => (List.range (pq (pl c) k 7)).flatMap fun j => RF i j).foldl add4 g))) (mm_pself hg.2) ?_
    refine lpN (fun i => ∀ t11 t12 t13 t14 t15 : Option Value, ((List.range i).flatMap fun i => (List.range (pq (pl c) k 7)).flatMap fun j => RF i j).all on4 = true → mm_R S (d + 3 + 2 * n + 1) 62 53 [some (.ref 8), some (.int (nI c)), some (.int (nI k)), some (.int (nI t)), some (.int x), some (.int y), some (.ref 3), some (.ref (12 + 3 * c)), some (.int (nI (pq (pl c) k 0))), some (.int (nI (tA (pq (pl c) k 1) t))), some (.int (nI i)), t11, t12, t13, t14, t15] [] (mm_put M 4 (ro (((List.range i).flatMap fun i => (List.range (pq (pl c) k 7)).flatMap fun j => RF i j).foldl add4 g))) (LR ((List.range (pq (pl c) k 6)).flatMap fun i => (List.range (pq (pl c) k 7)).flatMap fun j => RF i j) g M)) (pq (pl c) k 6) (fun i hi ihi t11 t12 t13 t14 t15 hall => ?_) (fun t11 t12 t13 t14 t15 hall => ?_) 0 (Nat.zero_le _) none none none none none rfl
    · have hF1 := LF_4 (c := ro (((List.range i).flatMap fun i => (List.range (pq (pl c) k 7)).flatMap fun j => RF i j).foldl add4 g)) hF
      have hp1 := hF1.2.1 c (by omega)
      obtain ⟨p1, p2, p3, p4, p5⟩ := id hp1
      refine R_iload (q := 55) rfl rfl rfl ?_
      refine R_aload (q := 57) rfl rfl rfl ?_
      refine R_iload_n (q := 58) rfl rfl rfl ?_
      refine R_bipush (q := 60) (v := nI 6) rfl rfl (by decide) ?_
      refine R_callv2 (q := 63) rfl rfl rfl rfl p1 (Nat.le_of_ble_eq_true rfl) rfl ?_
      refine R_mono (c82 (q := 6) hp1 (by omega)) (fun v60 M60 hr60 => ?_)
      obtain ⟨rfl, hm60⟩ := hr60
      rw [hm60]
      dsimp only [Option.toList, List.cons_append, List.nil_append]
      rw [q6]
      refine R_icmp_ge (q := 66) (t := 179) rfl rfl rfl (fun h63 => absurd h63 (nI_ge hi (by omega))) (fun h63 => ?_)
      refine R_aload (q := 68) rfl rfl rfl ?_
      refine R_iload_n (q := 69) rfl rfl rfl ?_
      refine R_iconst (q := 70) (v := nI 2) rfl rfl (by decide) ?_
      refine R_callv2 (q := 73) rfl rfl rfl rfl p1 (Nat.le_of_ble_eq_true rfl) rfl ?_
      refine R_mono (c82 (q := 2) hp1 (by omega)) (fun v70 M70 hr70 => ?_)
      obtain ⟨rfl, hm70⟩ := hr70
      rw [hm70]
      dsimp only [Option.toList, List.cons_append, List.nil_append]
      refine R_iload (q := 75) rfl rfl rfl ?_
      refine R_aload (q := 77) rfl rfl rfl ?_
      refine R_iload_n (q := 78) rfl rfl rfl ?_
      refine R_iconst (q := 79) (v := nI 4) rfl rfl (by decide) ?_
      refine R_callv2 (q := 82) rfl rfl rfl rfl p1 (Nat.le_of_ble_eq_true rfl) rfl ?_
      refine R_mono (c82 (q := 4) hp1 (by omega)) (fun v79 M79 hr79 => ?_)
      obtain ⟨rfl, hm79⟩ := hr79
      rw [hm79]
      dsimp only [Option.toList, List.cons_append, List.nil_append]
      refine R_imul (q := 83) rfl rfl ?_
      refine R_iadd (q := 84) rfl rfl ?_
      refine R_istore (q := 86) rfl rfl (Nat.le_of_ble_eq_true rfl) rfl ?_
      dsimp only [List.set]
      refine R_iconst (q := 87) (v := nI 0) rfl rfl (by decide) ?_
      refine R_istore (q := 89) rfl rfl (Nat.le_of_ble_eq_true rfl) rfl ?_
      dsimp only [List.set]
      refine R_atM (M' := mm_put M 4 (ro ((((List.range i).flatMap fun i => (List.range (pq (pl c) k 7)).flatMap fun j => RF i j) ++ (List.range 0).flatMap fun j => RF i j).foldl add4 g))) (by simp) ?_
      refine lpN (fun j => ∀ t13 t14 t15 : Option Value, (((List.range i).flatMap fun i => (List.range (pq (pl c) k 7)).flatMap fun j => RF i j) ++ (List.range j).flatMap fun j => RF i j).all on4 = true → mm_R S (d + 3 + 2 * n + 1) 62 89 [some (.ref 8), some (.int (nI c)), some (.int (nI k)), some (.int (nI t)), some (.int x), some (.int y), some (.ref 3), some (.ref (12 + 3 * c)), some (.int (nI (pq (pl c) k 0))), some (.int (nI (tA (pq (pl c) k 1) t))), some (.int (nI i)), some (.int (pxv (pl c) k i)), some (.int (nI j)), t13, t14, t15] [] (mm_put M 4 (ro ((((List.range i).flatMap fun i => (List.range (pq (pl c) k 7)).flatMap fun j => RF i j) ++ (List.range j).flatMap fun j => RF i j).foldl add4 g))) (LR ((List.range (pq (pl c) k 6)).flatMap fun i => (List.range (pq (pl c) k 7)).flatMap fun j => RF i j) g M)) (pq (pl c) k 7) (fun j hj ihj t13 t14 t15 hallj => ?_) (fun t13 t14 t15 hallj => ?_) 0 (Nat.zero_le _) _ _ _ (by simpa using hall)
      · have hF2 := LF_4 (c := ro ((((List.range i).flatMap fun i => (List.range (pq (pl c) k 7)).flatMap fun j => RF i j) ++ (List.range j).flatMap fun j => RF i j).foldl add4 g)) hF
        have hp1 := hF2.2.1 c (by omega)
        obtain ⟨p1, p2, p3, p4, p5⟩ := id hp1
        have h8 := hF2.1.1
        have hcall := ih (pq (pl c) k 0) (tA (pq (pl c) k 1) t) (x + tX t (pxv (pl c) k i) (pyv (pl c) k j)) (y + tY t (pxv (pl c) k i) (pyv (pl c) k j)) ((((List.range i).flatMap fun i => (List.range (pq (pl c) k 7)).flatMap fun j => RF i j) ++ (List.range j).flatMap fun j => RF i j).foldl add4 g) _ (by omega) (by omega) htA hF2 (CA_34 hg)
        rw [hRF'] at hcall
        refine R_iload (q := 91) rfl rfl rfl ?_
        refine R_aload (q := 93) rfl rfl rfl ?_
        refine R_iload_n (q := 94) rfl rfl rfl ?_
        refine R_bipush (q := 96) (v := nI 7) rfl rfl (by decide) ?_
        refine R_callv2 (q := 99) rfl rfl rfl rfl p1 (Nat.le_of_ble_eq_true rfl) rfl ?_
        refine R_mono (c82 (q := 7) hp1 (by omega)) (fun v96 M96 hr96 => ?_)
        obtain ⟨rfl, hm96⟩ := hr96
        rw [hm96]
        dsimp only [Option.toList, List.cons_append, List.nil_append]
        rw [q7]
        refine R_icmp_ge (q := 102) (t := 173) rfl rfl rfl (fun h99 => absurd h99 (nI_ge hj (by omega))) (fun h99 => ?_)
        refine R_aload (q := 104) rfl rfl rfl ?_
        refine R_iload_n (q := 105) rfl rfl rfl ?_
        refine R_iconst (q := 106) (v := nI 3) rfl rfl (by decide) ?_
        refine R_callv2 (q := 109) rfl rfl rfl rfl p1 (Nat.le_of_ble_eq_true rfl) rfl ?_
        refine R_mono (c82 (q := 3) hp1 (by omega)) (fun v106 M106 hr106 => ?_)
        obtain ⟨rfl, hm106⟩ := hr106
        rw [hm106]
        dsimp only [Option.toList, List.cons_append, List.nil_append]
        refine R_iload (q := 111) rfl rfl rfl ?_
        refine R_aload (q := 113) rfl rfl rfl ?_
        refine R_iload_n (q := 114) rfl rfl rfl ?_
        refine R_iconst (q := 115) (v := nI 5) rfl rfl (by decide) ?_
        refine R_callv2 (q := 118) rfl rfl rfl rfl p1 (Nat.le_of_ble_eq_true rfl) rfl ?_
        refine R_mono (c82 (q := 5) hp1 (by omega)) (fun v115 M115 hr115 => ?_)
        obtain ⟨rfl, hm115⟩ := hr115
        rw [hm115]
        dsimp only [Option.toList, List.cons_append, List.nil_append]
        refine R_imul (q := 119) rfl rfl ?_
        refine R_iadd (q := 120) rfl rfl ?_
        refine R_istore (q := 122) rfl rfl (Nat.le_of_ble_eq_true rfl) rfl ?_
        dsimp only [List.set]
        refine R_iload (q := 124) rfl rfl rfl ?_
        refine R_iload_n (q := 125) rfl rfl rfl ?_
        refine R_iload (q := 127) rfl rfl rfl ?_
        refine R_iload (q := 129) rfl rfl rfl ?_
        refine R_calls3 (q := 132) rfl rfl rfl rfl (Nat.le_of_ble_eq_true rfl) rfl ?_
        refine R_mono (c64 ht) (fun v129 M129 hr129 => ?_)
        obtain ⟨rfl, hm129⟩ := hr129
        rw [hm129]
        dsimp only [Option.toList, List.cons_append, List.nil_append]
        refine R_iadd (q := 133) rfl rfl ?_
        refine R_istore (q := 135) rfl rfl (Nat.le_of_ble_eq_true rfl) rfl ?_
        dsimp only [List.set]
        refine R_iload (q := 137) rfl rfl rfl ?_
        refine R_iload_n (q := 138) rfl rfl rfl ?_
        refine R_iload (q := 140) rfl rfl rfl ?_
        refine R_iload (q := 142) rfl rfl rfl ?_
        refine R_calls3 (q := 145) rfl rfl rfl rfl (Nat.le_of_ble_eq_true rfl) rfl ?_
        refine R_mono (c65 ht) (fun v142 M142 hr142 => ?_)
        obtain ⟨rfl, hm142⟩ := hr142
        rw [hm142]
        dsimp only [Option.toList, List.cons_append, List.nil_append]
        refine R_iadd (q := 146) rfl rfl ?_
        refine R_istore (q := 148) rfl rfl (Nat.le_of_ble_eq_true rfl) rfl ?_
        dsimp only [List.set]
        refine R_aload_n (q := 149) rfl rfl rfl ?_
        refine R_iload (q := 151) rfl rfl rfl ?_
        refine R_iload (q := 153) rfl rfl rfl ?_
        refine R_iload (q := 155) rfl rfl rfl ?_
        refine R_iload (q := 157) rfl rfl rfl ?_
        refine R_aload (q := 159) rfl rfl rfl ?_
        refine R_callv5 (q := 162) rfl rfl rfl rfl h8 (Nat.le_of_ble_eq_true rfl) rfl ?_
        refine R_mono (hcall) (fun v159 M159 hr159 => ?_)
        obtain ⟨g', hm159, hor159⟩ := hr159
        rw [mm_pp] at hm159
        rw [hm159]
        rcases hor159 with ⟨ha159, rfl, hg159⟩ | ⟨ha159, rfl⟩
        · dsimp only [Option.toList, List.cons_append, List.nil_append]
          refine R_if_ne (q := 165) (t := 167) rfl rfl rfl (fun h162 => ?_) (fun h162 => absurd h162 (by decide))
          refine R_iinc (q := 170) rfl rfl rfl (nI_i1 j) rfl ?_
          dsimp only [List.set]
          refine R_goto (t := 89) rfl rfl ?_
          have hs : (((List.range i).flatMap fun i => (List.range (pq (pl c) k 7)).flatMap fun j => RF i j) ++ (List.range (j + 1)).flatMap fun j => RF i j) = (((List.range i).flatMap fun i => (List.range (pq (pl c) k 7)).flatMap fun j => RF i j) ++ (List.range j).flatMap fun j => RF i j) ++ RF i j := by
            rw [List.range_succ, List.flatMap_append, List.flatMap_singleton, List.append_assoc]
          have hk2 := ihj (some (.int (pyv (pl c) k j))) (some (.int (x + tX t (pxv (pl c) k i) (pyv (pl c) k j)))) (some (.int (y + tY t (pxv (pl c) k i) (pyv (pl c) k j)))) (by rw [hs, List.all_append, hallj, ha159]; rfl)
          rw [hs, List.foldl_append] at hk2
          rw [hg159]
          exact hk2
        · dsimp only [Option.toList, List.cons_append, List.nil_append]
          refine R_if_ne (q := 165) (t := 167) rfl rfl rfl (fun h162 => absurd rfl h162) (fun h162 => ?_)
          refine R_iconst (q := 166) (v := nI 0) rfl rfl (by decide) ?_
          refine R_zreturn rfl rfl (Or.inl rfl) ?_
          exact LR_bad ha159 (fun r hr => List.mem_flatMap.mpr ⟨i, List.mem_range.mpr hi, List.mem_flatMap.mpr ⟨j, List.mem_range.mpr hj, hr⟩⟩)
        
      · refine R_iload (q := 91) rfl rfl rfl ?_
        refine R_aload (q := 93) rfl rfl rfl ?_
        refine R_iload_n (q := 94) rfl rfl rfl ?_
        refine R_bipush (q := 96) (v := nI 7) rfl rfl (by decide) ?_
        refine R_callv2 (q := 99) rfl rfl rfl rfl ((LF_4 hF).2.1 c (by omega)).1 (Nat.le_of_ble_eq_true rfl) rfl ?_
        refine R_mono (c82 (q := 7) ((LF_4 hF).2.1 c (by omega)) (by omega)) (fun v96 M96 hr96 => ?_)
        obtain ⟨rfl, hm96⟩ := hr96
        rw [hm96]
        dsimp only [Option.toList, List.cons_append, List.nil_append]
        rw [q7]
        refine R_icmp_ge (q := 102) (t := 173) rfl rfl rfl (fun h99 => ?_) (fun h99 => absurd (nI_le (Nat.le_refl _) (by omega)) h99)
        refine R_iinc (q := 176) rfl rfl rfl (nI_i1 i) rfl ?_
        dsimp only [List.set]
        refine R_goto (t := 53) rfl rfl ?_
        have hs : ((List.range (i + 1)).flatMap fun i => (List.range (pq (pl c) k 7)).flatMap fun j => RF i j) = (((List.range i).flatMap fun i => (List.range (pq (pl c) k 7)).flatMap fun j => RF i j) ++ (List.range (pq (pl c) k 7)).flatMap fun j => RF i j) := by
          rw [List.range_succ, List.flatMap_append, List.flatMap_singleton]
        have hk2 := ihi (some (.int (pxv (pl c) k i))) (some (.int (nI (pq (pl c) k 7)))) t13 t14 t15 (by rw [hs]; exact hallj)
        rw [hs] at hk2
        exact hk2
    · refine R_iload (q := 55) rfl rfl rfl ?_
      refine R_aload (q := 57) rfl rfl rfl ?_
      refine R_iload_n (q := 58) rfl rfl rfl ?_
      refine R_bipush (q := 60) (v := nI 6) rfl rfl (by decide) ?_
      refine R_callv2 (q := 63) rfl rfl rfl rfl ((LF_4 hF).2.1 c (by omega)).1 (Nat.le_of_ble_eq_true rfl) rfl ?_
      refine R_mono (c82 (q := 6) ((LF_4 hF).2.1 c (by omega)) (by omega)) (fun v60 M60 hr60 => ?_)
      obtain ⟨rfl, hm60⟩ := hr60
      rw [hm60]
      dsimp only [Option.toList, List.cons_append, List.nil_append]
      rw [q6]
      refine R_icmp_ge (q := 66) (t := 179) rfl rfl rfl (fun h63 => ?_) (fun h63 => absurd (nI_le (Nat.le_refl _) (by omega)) h63)
      refine R_iconst (q := 180) (v := nI 1) rfl rfl (by decide) ?_
      refine R_zreturn rfl rfl (by first | exact Or.inl rfl | exact Or.inr rfl | assumption) ?_
      exact ⟨_, rfl, Or.inl ⟨hall, rfl, rfl⟩⟩
  show mm_R S (d + 3 + 2 * n + 1) 62 0 [some (.ref 8), some (.int (nI c)), some (.int (nI k)), some (.int (nI t)), some (.int x), some (.int y), some (.ref 3), none, none, none, none, none, none, none, none, none] [] M _
  refine R_aload_n (q := 1) rfl rfl rfl ?_
  refine R_getf (q := 4) rfl rfl rfl (by first | assumption | exact mm_pe | (rw [mm_pn (by omega)]; first | assumption | exact mm_pe | (rw [mm_pn (by omega)]; first | assumption | exact mm_pe | (rw [mm_pn (by omega)]; first | assumption | exact mm_pe | (rw [mm_pn (by omega)]; first | assumption | exact mm_pe | (rw [mm_pn (by omega)]; first | assumption | exact mm_pe)))))) rfl ?_
  refine R_iload_n (q := 5) rfl rfl rfl ?_
  refine R_aaload (q := 6) rfl rfl (by first | assumption | exact mm_pe | (rw [mm_pn (by omega)]; first | assumption | exact mm_pe | (rw [mm_pn (by omega)]; first | assumption | exact mm_pe | (rw [mm_pn (by omega)]; first | assumption | exact mm_pe | (rw [mm_pn (by omega)]; first | assumption | exact mm_pe | (rw [mm_pn (by omega)]; first | assumption | exact mm_pe)))))) rfl (by first | assumption | exact in_nI (by omega) (by decide)) (by rw [cl_nI (by omega)]; exact hpf c (by omega)) ?_
  refine R_astore (q := 8) rfl rfl (Nat.le_of_ble_eq_true rfl) rfl ?_
  dsimp only [List.set]
  refine R_aload (q := 10) rfl rfl rfl ?_
  refine R_iload_n (q := 11) rfl rfl rfl ?_
  refine R_iconst (q := 12) (v := nI 0) rfl rfl (by decide) ?_
  refine R_callv2 (q := 15) rfl rfl rfl rfl p1 (Nat.le_of_ble_eq_true rfl) rfl ?_
  refine R_mono (c82 (q := 0) hp1 (by omega)) (fun v12 M12 hr12 => ?_)
  obtain ⟨rfl, hm12⟩ := hr12
  rw [hm12]
  dsimp only [Option.toList, List.cons_append, List.nil_append]
  rw [q0]
  refine R_istore (q := 17) rfl rfl (Nat.le_of_ble_eq_true rfl) rfl ?_
  dsimp only [List.set]
  refine R_iload (q := 19) rfl rfl rfl ?_
  refine R_iload_n (q := 20) rfl rfl rfl ?_
  refine R_icmp_lt (q := 23) (t := 25) rfl rfl rfl (fun h20 => ?_) (fun h20 => absurd (nI_lt (by omega) (by omega)) h20)
  refine R_aload_n (q := 26) rfl rfl rfl ?_
  refine R_getf (q := 29) rfl rfl rfl (by first | assumption | exact mm_pe | (rw [mm_pn (by omega)]; first | assumption | exact mm_pe | (rw [mm_pn (by omega)]; first | assumption | exact mm_pe | (rw [mm_pn (by omega)]; first | assumption | exact mm_pe | (rw [mm_pn (by omega)]; first | assumption | exact mm_pe | (rw [mm_pn (by omega)]; first | assumption | exact mm_pe)))))) rfl ?_
  refine R_iload (q := 31) rfl rfl rfl ?_
  refine R_iaload (q := 32) rfl rfl (by first | assumption | exact mm_pe | (rw [mm_pn (by omega)]; first | assumption | exact mm_pe | (rw [mm_pn (by omega)]; first | assumption | exact mm_pe | (rw [mm_pn (by omega)]; first | assumption | exact mm_pe | (rw [mm_pn (by omega)]; first | assumption | exact mm_pe | (rw [mm_pn (by omega)]; first | assumption | exact mm_pe)))))) (by omega) (by first | assumption | exact in_nI (by omega) (by decide)) ?_
  rw [cl_nI (by omega), hT2]
  refine R_if_ne (q := 35) (t := 37) rfl rfl rfl (fun h32 => ?_) (fun h32 => ?_)
  · refine R_aload (q := 39) rfl rfl rfl ?_
    refine R_iload_n (q := 40) rfl rfl rfl ?_
    refine R_iconst (q := 41) (v := nI 1) rfl rfl (by decide) ?_
    refine R_callv2 (q := 44) rfl rfl rfl rfl p1 (Nat.le_of_ble_eq_true rfl) rfl ?_
    refine R_mono (c82 (q := 1) hp1 (by omega)) (fun v41 M41 hr41 => ?_)
    obtain ⟨rfl, hm41⟩ := hr41
    rw [hm41]
    dsimp only [Option.toList, List.cons_append, List.nil_append]
    rw [q1]
    refine R_iload_n (q := 45) rfl rfl rfl ?_
    refine R_calls2 (q := 48) rfl rfl rfl rfl (Nat.le_of_ble_eq_true rfl) rfl ?_
    refine R_mono (c66 q1' ht) (fun v45 M45 hr45 => ?_)
    obtain ⟨rfl, hm45⟩ := hr45
    rw [hm45]
    dsimp only [Option.toList, List.cons_append, List.nil_append]
    refine R_istore (q := 50) rfl rfl (Nat.le_of_ble_eq_true rfl) rfl ?_
    dsimp only [List.set]
    refine R_iconst (q := 51) (v := nI 0) rfl rfl (by decide) ?_
    refine R_istore (q := 53) rfl rfl (Nat.le_of_ble_eq_true rfl) rfl ?_
    dsimp only [List.set]
    exact hloop
  · refine R_iconst (q := 36) (v := nI 1) rfl rfl (by decide) ?_
    refine R_zreturn rfl rfl (by first | exact Or.inl rfl | exact Or.inr rfl | assumption) ?_
    have hT0 : T = 0 := (nI_eq (a := T) (b := 0) (by omega) (by decide)).mp h32
    refine ⟨g, (mm_pself hg.2).symm, Or.inl ⟨?_, rfl, ?_⟩⟩
    · have hz : ((List.range (pq (pl c) k 6)).flatMap fun i => (List.range (pq (pl c) k 7)).flatMap fun j => RF i j) = [] := by
        simp only [← hRF', hT3 hT0]
        simp
      rw [hz]
      rfl
    · have hz : ((List.range (pq (pl c) k 6)).flatMap fun i => (List.range (pq (pl c) k 7)).flatMap fun j => RF i j) = [] := by
        simp only [← hRF', hT3 hT0]
        simp
      rw [hz]
      rfl
end P22
