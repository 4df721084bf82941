/-! ===== TapeReader: the object at 60, into the cells at 3 ===== -/
abbrev RS : Type := Nat × Int32 × Int32 × Int32 × Int32 × Int32 × Int32 × Int32 × Int32 × Int32
abbrev RS.due (r : RS) : Nat := r.1
abbrev RS.w (r : RS) : Int32 := r.2.1
abbrev RS.h (r : RS) : Int32 := r.2.2.1
abbrev RS.ln (r : RS) : Int32 := r.2.2.2.1
abbrev RS.x (r : RS) : Int32 := r.2.2.2.2.1
abbrev RS.y (r : RS) : Int32 := r.2.2.2.2.2.1
abbrev RS.cp (r : RS) : Int32 := r.2.2.2.2.2.2.1
abbrev RS.dx (r : RS) : Int32 := r.2.2.2.2.2.2.2.1
abbrev RS.dy (r : RS) : Int32 := r.2.2.2.2.2.2.2.2.1
abbrev RS.tot (r : RS) : Int32 := r.2.2.2.2.2.2.2.2.2
abbrev rdl (r : RS) : mm_E := .inr (9, [.int (nI r.due), .int r.w, .int r.h, .int r.ln, .int r.x, .int r.y, .int r.cp, .int r.dx, .int r.dy, .int r.tot])
def rdm (M : mm_M) (r : RS) (f : Nat → Int32) : mm_M := (fun k => if k = 60 then some (rdl r) else if k = 4 then some (ro f) else M.1 k, M.2)
def r12 (f : Nat → Int32) (r : R4) : Nat → Int32 := if on4 r = true then add4 f r else f
def rdr (x y dx dy w h : Int32) : Nat → Nat → (Nat → Int32) → (Nat → Int32)
  | 0, _, f => f
  | j + 1, i, f => rdr x y dx dy w h j (i + 1) (r12 f (x + nI i * dx, y + nI i * dy, w, h))
def drn (r : RS) : Int32 := if r.dx = 0 ∧ r.dy = 0 then nI 1 else r.cp
def rfin (r : RS) : RS := ⟨if 0 < r.ln - nI 1 then 3 else 0, r.w, r.h, r.ln - nI 1, r.x, r.y, r.cp, r.dx, r.dy, r.tot + r.cp⟩
def rff (r : RS) (f : Nat → Int32) : Nat → Int32 := rdr r.x r.y r.dx r.dy r.w r.h (drn r).toNatClampNeg 0 f
def sgn (b : Int32) : Int32 := if b < nI 128 then b else b - nI 256
def eop (cp a s l : Int32) : Bool := decide (0 ≤ a + (cp - nI 1) * s ∧ a + (cp - nI 1) * s ≤ nI 16 - l)
/-- the answer, and what is left -/
abbrev RA : Type := Bool × RS × (Nat → Int32)
def acc (b : Int32) (r : RS) (f : Nat → Int32) : RA :=
  match r.due with
  | 0 => (decide (b ≤ nI 16), ⟨if b = 0 then 8 else 1, b, r.h, r.ln, r.x, r.y, r.cp, r.dx, r.dy, r.tot⟩, f)
  | 1 => (decide (nI 1 ≤ b ∧ b ≤ nI 16), ⟨2, r.w, b, r.ln, r.x, r.y, r.cp, r.dx, r.dy, r.tot⟩, f)
  | 2 => (decide (nI 1 ≤ b), ⟨3, r.w, r.h, b, r.x, r.y, r.cp, r.dx, r.dy, r.tot⟩, f)
  | 3 => (decide (b ≤ nI 16 - r.w), ⟨4, r.w, r.h, r.ln, b, r.y, r.cp, r.dx, r.dy, r.tot⟩, f)
  | 4 => (decide (b ≤ nI 16 - r.h), ⟨5, r.w, r.h, r.ln, r.x, b, r.cp, r.dx, r.dy, r.tot⟩, f)
  | 5 => if b = nI 1 then (true, rfin ⟨r.due, r.w, r.h, r.ln, r.x, r.y, b, nI 0, nI 0, r.tot⟩, rff ⟨r.due, r.w, r.h, r.ln, r.x, r.y, b, nI 0, nI 0, r.tot⟩ f) else (decide (nI 1 < b), ⟨6, r.w, r.h, r.ln, r.x, r.y, b, nI 0, nI 0, r.tot⟩, f)
  | 6 => (eop r.cp r.x (sgn b) r.w, ⟨7, r.w, r.h, r.ln, r.x, r.y, r.cp, sgn b, r.dy, r.tot⟩, f)
  | 7 => if eop r.cp r.y (sgn b) r.h = true then (true, rfin ⟨r.due, r.w, r.h, r.ln, r.x, r.y, r.cp, r.dx, sgn b, r.tot⟩, rff ⟨r.due, r.w, r.h, r.ln, r.x, r.y, r.cp, r.dx, sgn b, r.tot⟩ f) else (false, ⟨r.due, r.w, r.h, r.ln, r.x, r.y, r.cp, r.dx, sgn b, r.tot⟩, f)
  | _ => (false, r, f)
theorem acc_0 {b : Int32} {r : RS} {f : Nat → Int32} (h : r.due = 0) : acc b r f = (decide (b ≤ nI 16), ⟨if b = 0 then 8 else 1, b, r.h, r.ln, r.x, r.y, r.cp, r.dx, r.dy, r.tot⟩, f) := by
  unfold acc
  rw [h]
  rfl
theorem acc_1 {b : Int32} {r : RS} {f : Nat → Int32} (h : r.due = 1) : acc b r f = (decide (nI 1 ≤ b ∧ b ≤ nI 16), ⟨2, r.w, b, r.ln, r.x, r.y, r.cp, r.dx, r.dy, r.tot⟩, f) := by
  unfold acc
  rw [h]
  rfl
theorem acc_2 {b : Int32} {r : RS} {f : Nat → Int32} (h : r.due = 2) : acc b r f = (decide (nI 1 ≤ b), ⟨3, r.w, r.h, b, r.x, r.y, r.cp, r.dx, r.dy, r.tot⟩, f) := by
  unfold acc
  rw [h]
  rfl
theorem acc_3 {b : Int32} {r : RS} {f : Nat → Int32} (h : r.due = 3) : acc b r f = (decide (b ≤ nI 16 - r.w), ⟨4, r.w, r.h, r.ln, b, r.y, r.cp, r.dx, r.dy, r.tot⟩, f) := by
  unfold acc
  rw [h]
  rfl
theorem acc_4 {b : Int32} {r : RS} {f : Nat → Int32} (h : r.due = 4) : acc b r f = (decide (b ≤ nI 16 - r.h), ⟨5, r.w, r.h, r.ln, r.x, b, r.cp, r.dx, r.dy, r.tot⟩, f) := by
  unfold acc
  rw [h]
  rfl
theorem acc_5 {b : Int32} {r : RS} {f : Nat → Int32} (h : r.due = 5) : acc b r f = if b = nI 1 then (true, rfin ⟨5, r.w, r.h, r.ln, r.x, r.y, b, nI 0, nI 0, r.tot⟩, rff ⟨5, r.w, r.h, r.ln, r.x, r.y, b, nI 0, nI 0, r.tot⟩ f) else (decide (nI 1 < b), ⟨6, r.w, r.h, r.ln, r.x, r.y, b, nI 0, nI 0, r.tot⟩, f) := by
  unfold acc
  rw [h]
  rfl
theorem acc_6 {b : Int32} {r : RS} {f : Nat → Int32} (h : r.due = 6) : acc b r f = (eop r.cp r.x (sgn b) r.w, ⟨7, r.w, r.h, r.ln, r.x, r.y, r.cp, sgn b, r.dy, r.tot⟩, f) := by
  unfold acc
  rw [h]
  rfl
theorem acc_7 {b : Int32} {r : RS} {f : Nat → Int32} (h : r.due = 7) : acc b r f = if eop r.cp r.y (sgn b) r.h = true then (true, rfin ⟨7, r.w, r.h, r.ln, r.x, r.y, r.cp, r.dx, sgn b, r.tot⟩, rff ⟨7, r.w, r.h, r.ln, r.x, r.y, r.cp, r.dx, sgn b, r.tot⟩ f) else (false, ⟨7, r.w, r.h, r.ln, r.x, r.y, r.cp, r.dx, sgn b, r.tot⟩, f) := by
  unfold acc
  rw [h]
  rfl
theorem acc_8 {b : Int32} {r : RS} {f : Nat → Int32} (h : r.due = 8) : acc b r f = (false, r, f) := by
  unfold acc
  rw [h]
  rfl
section P35
variable {S : mm_S} {d : Nat} {M : mm_M} {r : RS} {f p : Nat → Int32} {n a : Nat} {b : Int32}
theorem rd_60 : (rdm M r f).1 60 = some (rdl r) := rfl
theorem rd_off {k : Nat} (h : k ≠ 60 ∧ k ≠ 4) : (rdm M r f).1 k = M.1 k := by
  unfold rdm
  dsimp only
  rw [if_neg h.1, if_neg h.2]
theorem rd_CA (h : M.1 3 = some (.inr (0, [.ref 4]))) : CA (rdm M r f) 3 f := ⟨by rw [rd_off (by decide)]; exact h, rfl⟩
theorem rd_TP (h : TP M 53 n p) : TP (rdm M r f) 53 n p := ⟨by rw [rd_off (by decide)]; exact h.1, by rw [rd_off (by decide)]; exact h.2.1, h.2.2⟩
theorem rd_p60 {d0 : Nat} {a1 a2 a3 a4 a5 a6 a7 a8 a9 : Int32} : mm_put (rdm M r f) 60 (.inr (9, [.int (nI d0), .int a1, .int a2, .int a3, .int a4, .int a5, .int a6, .int a7, .int a8, .int a9])) = rdm M ⟨d0, a1, a2, a3, a4, a5, a6, a7, a8, a9⟩ f := by
  unfold mm_put mm_u rdm
  congr 1
  funext k
  by_cases h : k = 60
  · subst h; rfl
  · simp [h]
theorem rd_p4 {g : Nat → Int32} : mm_put (rdm M r f) (3 + 1) (ro g) = rdm M r g := by
  unfold mm_put mm_u rdm
  congr 1
  funext k
  by_cases h : k = 4
  · subst h; rfl
  · simp [h]
set_option maxRecDepth 8000 in
theorem c12_no {r : R4} {g : Nat → Int32} (hr : ¬ on4 r = true) : mm_R S (d + 1) 12 0 (mm_en 12 [.ref a, .int r.1, .int r.2.1, .int r.2.2.1, .int r.2.2.2]) [] M (fun v M' => v = none ∧ M' = M) := by
  unfold on4 at hr
  show mm_R S (d + 1) 12 0 [some (.ref a), some (.int r.1), some (.int r.2.1), some (.int r.2.2.1), some (.int r.2.2.2), none] [] M _
  refine R_iload_n (q := 1) rfl rfl rfl ?_
  refine R_iload_n (q := 2) rfl rfl rfl ?_
  refine R_iload_n (q := 3) rfl rfl rfl ?_
  refine R_iload (q := 5) rfl rfl rfl ?_
  refine R_calls4 (q := 8) rfl rfl rfl rfl (Nat.le_of_ble_eq_true rfl) rfl ?_
  refine R_mono (c143) (fun v5 M5 hr5 => ?_)
  obtain ⟨rfl, hm5⟩ := hr5
  rw [hm5]
  dsimp only [Option.toList, List.cons_append, List.nil_append]
  refine R_if_eq (q := 11) (t := 46) rfl rfl rfl (fun h8 => ?_) (fun h8 => absurd (zb_eq0.mpr (by simpa using hr)) h8)
  refine R_return rfl rfl ?_
  exact ⟨rfl, rfl⟩
set_option maxRecDepth 8000 in
theorem c12r {q : R4} (hM : M.1 3 = some (.inr (0, [.ref 4]))) : mm_R S (d + 1) 12 0 (mm_en 12 [.ref 3, .int q.1, .int q.2.1, .int q.2.2.1, .int q.2.2.2]) [] (rdm M r f) (fun v M' => v = none ∧ M' = rdm M r (r12 f q)) := by
  unfold r12
  by_cases h : on4 q = true
  · rw [if_pos h]
    have g := c12b (S := S) (d := d) h (rd_CA (r := r) (f := f) hM)
    rw [rd_p4] at g
    exact g
  · rw [if_neg h]
    exact c12_no (g := f) h
set_option maxRecDepth 8000 in
theorem c103 : mm_R S d 103 0 (mm_en 103 [.int b]) [] M (fun v M' => v = some (.int (sgn b)) ∧ M' = M) := by
  unfold sgn
  show mm_R S d 103 0 [some (.int b)] [] M _
  refine R_iload_n (q := 1) rfl rfl rfl ?_
  refine R_sipush (q := 4) (v := nI 128) rfl rfl (by decide) ?_
  refine R_icmp_ge (q := 7) (t := 11) rfl rfl rfl (fun h4 => ?_) (fun h4 => ?_)
  · refine R_iload_n (q := 12) rfl rfl rfl ?_
    refine R_sipush (q := 15) (v := nI 256) rfl rfl (by decide) ?_
    refine R_isub (q := 16) rfl rfl ?_
    refine R_ireturn rfl rfl ?_
    first
      | (rw [if_neg (fun q => i_lnl h4 q)]; exact ⟨rfl, rfl⟩)
      | (rw [if_pos (i_nlt h4)]; exact ⟨rfl, rfl⟩)
  · refine R_iload_n (q := 8) rfl rfl rfl ?_
    refine R_goto (t := 16) rfl rfl ?_
    refine R_ireturn rfl rfl ?_
    first
      | (rw [if_neg (fun q => i_lnl h4 q)]; exact ⟨rfl, rfl⟩)
      | (rw [if_pos (i_nlt h4)]; exact ⟨rfl, rfl⟩)
set_option maxRecDepth 8000 in
theorem c104 {x s l : Int32} : mm_R S d 104 0 (mm_en 104 [.ref 60, .int x, .int s, .int l]) [] (rdm M r f) (fun v M' => v = some (.int (zb (eop r.cp x s l))) ∧ M' = rdm M r f) := by
  unfold eop
  show mm_R S d 104 0 [some (.ref 60), some (.int x), some (.int s), some (.int l), none] [] (rdm M r f) _
  refine R_iload_n (q := 1) rfl rfl rfl ?_
  refine R_aload_n (q := 2) rfl rfl rfl ?_
  refine R_getf (q := 5) rfl rfl rfl rd_60 rfl ?_
  refine R_iconst (q := 6) (v := nI 1) rfl rfl (by decide) ?_
  refine R_isub (q := 7) rfl rfl ?_
  refine R_iload_n (q := 8) rfl rfl rfl ?_
  refine R_imul (q := 9) rfl rfl ?_
  refine R_iadd (q := 10) rfl rfl ?_
  refine R_istore (q := 12) rfl rfl (Nat.le_of_ble_eq_true rfl) rfl ?_
  dsimp only [List.set]
  refine R_iload (q := 14) rfl rfl rfl ?_
  refine R_if_lt (q := 17) (t := 30) rfl rfl rfl (fun h14 => ?_) (fun h14 => ?_)
  · refine R_iconst (q := 31) (v := nI 0) rfl rfl (by decide) ?_
    refine R_zreturn rfl rfl (by first | exact Or.inl rfl | exact Or.inr rfl | assumption) ?_
    refine ⟨congrArg some (congrArg Value.int ?_), rfl⟩
    first
      | exact (zb_f (fun q => i_lnl q.1 h14)).symm
      | exact (zb_f (fun q => i_lnl q.2 h23)).symm
      | exact (zb_t (And.intro (i_nle h14) (i_nle h23))).symm
  · refine R_iload (q := 19) rfl rfl rfl ?_
    refine R_bipush (q := 21) (v := nI 16) rfl rfl (by decide) ?_
    refine R_iload_n (q := 22) rfl rfl rfl ?_
    refine R_isub (q := 23) rfl rfl ?_
    refine R_icmp_gt (q := 26) (t := 30) rfl rfl rfl (fun h23 => ?_) (fun h23 => ?_)
    · refine R_iconst (q := 31) (v := nI 0) rfl rfl (by decide) ?_
      refine R_zreturn rfl rfl (by first | exact Or.inl rfl | exact Or.inr rfl | assumption) ?_
      refine ⟨congrArg some (congrArg Value.int ?_), rfl⟩
      first
        | exact (zb_f (fun q => i_lnl q.1 h14)).symm
        | exact (zb_f (fun q => i_lnl q.2 h23)).symm
        | exact (zb_t (And.intro (i_nle h14) (i_nle h23))).symm
    · refine R_iconst (q := 27) (v := nI 1) rfl rfl (by decide) ?_
      refine R_goto (t := 31) rfl rfl ?_
      refine R_zreturn rfl rfl (by first | exact Or.inl rfl | exact Or.inr rfl | assumption) ?_
      refine ⟨congrArg some (congrArg Value.int ?_), rfl⟩
      first
        | exact (zb_f (fun q => i_lnl q.1 h14)).symm
        | exact (zb_f (fun q => i_lnl q.2 h23)).symm
        | exact (zb_t (And.intro (i_nle h14) (i_nle h23))).symm
theorem cnn_lt (c : Int32) : c.toNatClampNeg < 2147483648 := by
  have h := c.toInt_lt
  have h2 : c.toNatClampNeg = c.toInt.toNat := rfl
  omega
theorem cnn_ge {c : Int32} {i : Nat} (h : i = c.toNatClampNeg) : c ≤ nI i := by
  have h2 : c.toNatClampNeg = c.toInt.toNat := rfl
  have h3 := cnn_lt c
  rw [i_le, i_n i (by omega)]
  omega
theorem cnn_lt2 {c : Int32} {i : Nat} (h : i < c.toNatClampNeg) : ¬ c ≤ nI i := by
  have h2 : c.toNatClampNeg = c.toInt.toNat := rfl
  have h3 := cnn_lt c
  rw [i_le, i_n i (by omega)]
  omega
set_option maxRecDepth 8000 in
theorem c105_loop (hM : M.1 3 = some (.inr (0, [.ref 4]))) {P : Option Value → mm_M → Prop} {c : Int32} : ∀ (j i : Nat) (g : Nat → Int32), i + j = c.toNatClampNeg → (∀ (g' : Nat → Int32) (t : Nat), g' = rdr r.x r.y r.dx r.dy r.w r.h j i g → mm_R S (d + 2) 105 83 [some (.ref 60), some (.ref 3), some (.int c), some (.int (nI t))] [] (rdm M r g') P) → mm_R S (d + 2) 105 38 [some (.ref 60), some (.ref 3), some (.int c), some (.int (nI i))] [] (rdm M r g) P := by
  have hc : c.toNatClampNeg < 2147483648 := cnn_lt c
  intro j
  induction j with
  | zero =>
    intro i g hi hk
    refine R_iload_n (q := 39) rfl rfl rfl ?_
    refine R_iload_n (q := 40) rfl rfl rfl ?_
    refine R_icmp_ge (q := 43) (t := 83) rfl rfl rfl (fun h40 => ?_) (fun h40 => absurd (cnn_ge (by omega)) h40)
    exact hk g i rfl
  | succ j ih =>
    intro i g hi hk
    refine R_iload_n (q := 39) rfl rfl rfl ?_
    refine R_iload_n (q := 40) rfl rfl rfl ?_
    refine R_icmp_ge (q := 43) (t := 83) rfl rfl rfl (fun h40 => absurd h40 (cnn_lt2 (by omega))) (fun h40 => ?_)
    refine R_aload_n (q := 44) rfl rfl rfl ?_
    refine R_aload_n (q := 45) rfl rfl rfl ?_
    refine R_getf (q := 48) rfl rfl rfl rd_60 rfl ?_
    refine R_iload_n (q := 49) rfl rfl rfl ?_
    refine R_aload_n (q := 50) rfl rfl rfl ?_
    refine R_getf (q := 53) rfl rfl rfl rd_60 rfl ?_
    refine R_imul (q := 54) rfl rfl ?_
    refine R_iadd (q := 55) rfl rfl ?_
    refine R_aload_n (q := 56) rfl rfl rfl ?_
    refine R_getf (q := 59) rfl rfl rfl rd_60 rfl ?_
    refine R_iload_n (q := 60) rfl rfl rfl ?_
    refine R_aload_n (q := 61) rfl rfl rfl ?_
    refine R_getf (q := 64) rfl rfl rfl rd_60 rfl ?_
    refine R_imul (q := 65) rfl rfl ?_
    refine R_iadd (q := 66) rfl rfl ?_
    refine R_aload_n (q := 67) rfl rfl rfl ?_
    refine R_getf (q := 70) rfl rfl rfl rd_60 rfl ?_
    refine R_aload_n (q := 71) rfl rfl rfl ?_
    refine R_getf (q := 74) rfl rfl rfl rd_60 rfl ?_
    refine R_callv4 (q := 77) rfl rfl rfl rfl (rd_CA hM).1 (Nat.le_of_ble_eq_true rfl) rfl ?_
    refine R_mono (c12r (q := (r.x + nI i * r.dx, r.y + nI i * r.dy, r.w, r.h)) hM) (fun v74 M74 hr74 => ?_)
    obtain ⟨rfl, hm74⟩ := hr74
    rw [hm74]
    dsimp only [Option.toList, List.cons_append, List.nil_append]
    refine R_iinc (q := 80) rfl rfl rfl (nI_i1 i) rfl ?_
    dsimp only [List.set]
    refine R_goto (t := 38) rfl rfl ?_
    exact ih (i + 1) _ (by omega) (fun g1 t hg => hk g1 t hg)
set_option maxRecDepth 8000 in
theorem c105 (hM : M.1 3 = some (.inr (0, [.ref 4]))) : mm_R S (d + 2) 105 0 (mm_en 105 [.ref 60, .ref 3]) [] (rdm M r f) (fun v M' => v = some (.int (nI 1)) ∧ M' = rdm M (rfin r) (rff r f)) := by
  have hend : ∀ (c : Int32) (t : Nat) (g : Nat → Int32), mm_R S (d + 2) 105 83 [some (.ref 60), some (.ref 3), some (.int c), some (.int (nI t))] [] (rdm M ⟨r.due, r.w, r.h, r.ln, r.x, r.y, r.cp, r.dx, r.dy, r.tot + r.cp⟩ g) (fun v M' => v = some (.int (nI 1)) ∧ M' = rdm M (rfin r) g) := by
    intro c t g
    unfold rfin
    refine R_aload_n (q := 84) rfl rfl rfl ?_
    first | refine R_dupa (q := 85) rfl rfl ?_ | refine R_dupi (q := 85) rfl rfl ?_
    refine R_getf (q := 88) rfl rfl rfl rd_60 rfl ?_
    refine R_iconst (q := 89) (v := nI 1) rfl rfl (by decide) ?_
    refine R_isub (q := 90) rfl rfl ?_
    refine R_putf (q := 93) rfl rfl rfl rd_60 (Nat.le_of_ble_eq_true rfl) rfl (fun hf => absurd hf (by decide)) rfl ?_
    dsimp only [List.set]
    rw [rd_p60]
    refine R_aload_n (q := 94) rfl rfl rfl ?_
    refine R_aload_n (q := 95) rfl rfl rfl ?_
    refine R_getf (q := 98) rfl rfl rfl rd_60 rfl ?_
    refine R_if_le (q := 101) (t := 105) rfl rfl rfl (fun h98 => ?_) (fun h98 => ?_)
    · refine R_iconst (q := 106) (v := nI 0) rfl rfl (by decide) ?_
      refine R_putf (q := 109) rfl rfl rfl rd_60 (Nat.le_of_ble_eq_true rfl) rfl (fun hf => absurd hf (by decide)) rfl ?_
      dsimp only [List.set]
      rw [rd_p60]
      refine R_iconst (q := 110) (v := nI 1) rfl rfl (by decide) ?_
      refine R_zreturn rfl rfl (by first | exact Or.inl rfl | exact Or.inr rfl | assumption) ?_
      first
        | (rw [if_neg (fun q => i_lnl h98 q)]; exact ⟨rfl, rfl⟩)
        | (rw [if_pos (i_nlt h98)]; exact ⟨rfl, rfl⟩)
    · refine R_iconst (q := 102) (v := nI 3) rfl rfl (by decide) ?_
      refine R_goto (t := 106) rfl rfl ?_
      refine R_putf (q := 109) rfl rfl rfl rd_60 (Nat.le_of_ble_eq_true rfl) rfl (fun hf => absurd hf (by decide)) rfl ?_
      dsimp only [List.set]
      rw [rd_p60]
      refine R_iconst (q := 110) (v := nI 1) rfl rfl (by decide) ?_
      refine R_zreturn rfl rfl (by first | exact Or.inl rfl | exact Or.inr rfl | assumption) ?_
      first
        | (rw [if_neg (fun q => i_lnl h98 q)]; exact ⟨rfl, rfl⟩)
        | (rw [if_pos (i_nlt h98)]; exact ⟨rfl, rfl⟩)
  show mm_R S (d + 2) 105 0 [some (.ref 60), some (.ref 3), none, none] [] (rdm M r f) _
  unfold rff drn
  refine R_aload_n (q := 1) rfl rfl rfl ?_
  first | refine R_dupa (q := 2) rfl rfl ?_ | refine R_dupi (q := 2) rfl rfl ?_
  refine R_getf (q := 5) rfl rfl rfl rd_60 rfl ?_
  refine R_aload_n (q := 6) rfl rfl rfl ?_
  refine R_getf (q := 9) rfl rfl rfl rd_60 rfl ?_
  refine R_iadd (q := 10) rfl rfl ?_
  refine R_putf (q := 13) rfl rfl rfl rd_60 (Nat.le_of_ble_eq_true rfl) rfl (fun hf => absurd hf (by decide)) rfl ?_
  dsimp only [List.set]
  rw [rd_p60]
  refine R_aload_n (q := 14) rfl rfl rfl ?_
  refine R_getf (q := 17) rfl rfl rfl rd_60 rfl ?_
  refine R_if_ne (q := 20) (t := 31) rfl rfl rfl (fun h17 => ?_) (fun h17 => ?_)
  · refine R_aload_n (q := 32) rfl rfl rfl ?_
    refine R_getf (q := 35) rfl rfl rfl rd_60 rfl ?_
    refine R_istore_n (q := 36) rfl rfl (Nat.le_of_ble_eq_true rfl) rfl ?_
    dsimp only [List.set]
    refine R_iconst (q := 37) (v := nI 0) rfl rfl (by decide) ?_
    refine R_istore_n (q := 38) rfl rfl (Nat.le_of_ble_eq_true rfl) rfl ?_
    dsimp only [List.set]
    first
      | (rw [if_neg (fun q => h17 q.1)]; exact c105_loop hM (c := r.cp) r.cp.toNatClampNeg 0 f (by omega) (fun g t hg => by rw [← show g = rdr r.x r.y r.dx r.dy r.w r.h r.cp.toNatClampNeg 0 f from hg]; exact hend r.cp t g))
      | (rw [if_neg (fun q => h24 q.2)]; exact c105_loop hM (c := r.cp) r.cp.toNatClampNeg 0 f (by omega) (fun g t hg => by rw [← show g = rdr r.x r.y r.dx r.dy r.w r.h r.cp.toNatClampNeg 0 f from hg]; exact hend r.cp t g))
      | (rw [if_pos (And.intro h17 h24)]; exact c105_loop hM (c := nI 1) (nI 1).toNatClampNeg 0 f (by omega) (fun g t hg => by rw [← show g = rdr r.x r.y r.dx r.dy r.w r.h (nI 1).toNatClampNeg 0 f from hg]; exact hend (nI 1) t g))
  · refine R_aload_n (q := 21) rfl rfl rfl ?_
    refine R_getf (q := 24) rfl rfl rfl rd_60 rfl ?_
    refine R_if_ne (q := 27) (t := 31) rfl rfl rfl (fun h24 => ?_) (fun h24 => ?_)
    · refine R_aload_n (q := 32) rfl rfl rfl ?_
      refine R_getf (q := 35) rfl rfl rfl rd_60 rfl ?_
      refine R_istore_n (q := 36) rfl rfl (Nat.le_of_ble_eq_true rfl) rfl ?_
      dsimp only [List.set]
      refine R_iconst (q := 37) (v := nI 0) rfl rfl (by decide) ?_
      refine R_istore_n (q := 38) rfl rfl (Nat.le_of_ble_eq_true rfl) rfl ?_
      dsimp only [List.set]
      first
        | (rw [if_neg (fun q => h17 q.1)]; exact c105_loop hM (c := r.cp) r.cp.toNatClampNeg 0 f (by omega) (fun g t hg => by rw [← show g = rdr r.x r.y r.dx r.dy r.w r.h r.cp.toNatClampNeg 0 f from hg]; exact hend r.cp t g))
        | (rw [if_neg (fun q => h24 q.2)]; exact c105_loop hM (c := r.cp) r.cp.toNatClampNeg 0 f (by omega) (fun g t hg => by rw [← show g = rdr r.x r.y r.dx r.dy r.w r.h r.cp.toNatClampNeg 0 f from hg]; exact hend r.cp t g))
        | (rw [if_pos (And.intro h17 h24)]; exact c105_loop hM (c := nI 1) (nI 1).toNatClampNeg 0 f (by omega) (fun g t hg => by rw [← show g = rdr r.x r.y r.dx r.dy r.w r.h (nI 1).toNatClampNeg 0 f from hg]; exact hend (nI 1) t g))
    · refine R_iconst (q := 28) (v := nI 1) rfl rfl (by decide) ?_
      refine R_goto (t := 35) rfl rfl ?_
      refine R_istore_n (q := 36) rfl rfl (Nat.le_of_ble_eq_true rfl) rfl ?_
      dsimp only [List.set]
      refine R_iconst (q := 37) (v := nI 0) rfl rfl (by decide) ?_
      refine R_istore_n (q := 38) rfl rfl (Nat.le_of_ble_eq_true rfl) rfl ?_
      dsimp only [List.set]
      first
        | (rw [if_neg (fun q => h17 q.1)]; exact c105_loop hM (c := r.cp) r.cp.toNatClampNeg 0 f (by omega) (fun g t hg => by rw [← show g = rdr r.x r.y r.dx r.dy r.w r.h r.cp.toNatClampNeg 0 f from hg]; exact hend r.cp t g))
        | (rw [if_neg (fun q => h24 q.2)]; exact c105_loop hM (c := r.cp) r.cp.toNatClampNeg 0 f (by omega) (fun g t hg => by rw [← show g = rdr r.x r.y r.dx r.dy r.w r.h r.cp.toNatClampNeg 0 f from hg]; exact hend r.cp t g))
        | (rw [if_pos (And.intro h17 h24)]; exact c105_loop hM (c := nI 1) (nI 1).toNatClampNeg 0 f (by omega) (fun g t hg => by rw [← show g = rdr r.x r.y r.dx r.dy r.w r.h (nI 1).toNatClampNeg 0 f from hg]; exact hend (nI 1) t g))
set_option maxRecDepth 8000 in
theorem c101 (hd : r.due = 0) : mm_R S d 101 0 (mm_en 101 [.ref 60, .int b]) [] (rdm M r f) (fun v M' => v = some (.int (zb (acc b r f).1)) ∧ M' = rdm M (acc b r f).2.1 (acc b r f).2.2) := by
  rw [acc_0 hd]
  show mm_R S d 101 0 [some (.ref 60), some (.int b)] [] (rdm M r f) _
  refine R_aload_n (q := 1) rfl rfl rfl ?_
  refine R_iload_n (q := 2) rfl rfl rfl ?_
  refine R_putf (q := 5) rfl rfl rfl rd_60 (Nat.le_of_ble_eq_true rfl) rfl (fun hf => absurd hf (by decide)) rfl ?_
  dsimp only [List.set]
  rw [rd_p60]
  refine R_aload_n (q := 6) rfl rfl rfl ?_
  refine R_iload_n (q := 7) rfl rfl rfl ?_
  refine R_if_ne (q := 10) (t := 15) rfl rfl rfl (fun h7 => ?_) (fun h7 => ?_)
  · refine R_iconst (q := 16) (v := nI 1) rfl rfl (by decide) ?_
    refine R_putf (q := 19) rfl rfl rfl rd_60 (Nat.le_of_ble_eq_true rfl) rfl (fun hf => absurd hf (by decide)) rfl ?_
    dsimp only [List.set]
    rw [rd_p60]
    first
      | rw [if_pos h7]
      | rw [if_neg h7]
    refine R_iload_n (q := 20) rfl rfl rfl ?_
    refine R_bipush (q := 22) (v := nI 16) rfl rfl (by decide) ?_
    refine R_icmp_gt (q := 25) (t := 29) rfl rfl rfl (fun h22 => ?_) (fun h22 => ?_)
    · refine R_iconst (q := 30) (v := nI 0) rfl rfl (by decide) ?_
      refine R_zreturn rfl rfl (by first | exact Or.inl rfl | exact Or.inr rfl | assumption) ?_
      first
        | exact ⟨congrArg some (congrArg Value.int (zb_f (fun q => i_lnl q h22)).symm), rfl⟩
        | exact ⟨congrArg some (congrArg Value.int (zb_t (i_nle h22)).symm), rfl⟩
    · refine R_iconst (q := 26) (v := nI 1) rfl rfl (by decide) ?_
      refine R_goto (t := 30) rfl rfl ?_
      refine R_zreturn rfl rfl (by first | exact Or.inl rfl | exact Or.inr rfl | assumption) ?_
      first
        | exact ⟨congrArg some (congrArg Value.int (zb_f (fun q => i_lnl q h22)).symm), rfl⟩
        | exact ⟨congrArg some (congrArg Value.int (zb_t (i_nle h22)).symm), rfl⟩
  · refine R_bipush (q := 12) (v := nI 8) rfl rfl (by decide) ?_
    refine R_goto (t := 16) rfl rfl ?_
    refine R_putf (q := 19) rfl rfl rfl rd_60 (Nat.le_of_ble_eq_true rfl) rfl (fun hf => absurd hf (by decide)) rfl ?_
    dsimp only [List.set]
    rw [rd_p60]
    first
      | rw [if_pos h7]
      | rw [if_neg h7]
    refine R_iload_n (q := 20) rfl rfl rfl ?_
    refine R_bipush (q := 22) (v := nI 16) rfl rfl (by decide) ?_
    refine R_icmp_gt (q := 25) (t := 29) rfl rfl rfl (fun h22 => ?_) (fun h22 => ?_)
    · refine R_iconst (q := 30) (v := nI 0) rfl rfl (by decide) ?_
      refine R_zreturn rfl rfl (by first | exact Or.inl rfl | exact Or.inr rfl | assumption) ?_
      first
        | exact ⟨congrArg some (congrArg Value.int (zb_f (fun q => i_lnl q h22)).symm), rfl⟩
        | exact ⟨congrArg some (congrArg Value.int (zb_t (i_nle h22)).symm), rfl⟩
    · refine R_iconst (q := 26) (v := nI 1) rfl rfl (by decide) ?_
      refine R_goto (t := 30) rfl rfl ?_
      refine R_zreturn rfl rfl (by first | exact Or.inl rfl | exact Or.inr rfl | assumption) ?_
      first
        | exact ⟨congrArg some (congrArg Value.int (zb_f (fun q => i_lnl q h22)).symm), rfl⟩
        | exact ⟨congrArg some (congrArg Value.int (zb_t (i_nle h22)).symm), rfl⟩
set_option maxRecDepth 8000 in
theorem c102 (hM : M.1 3 = some (.inr (0, [.ref 4]))) (hd : r.due = 5) : mm_R S (d + 3) 102 0 (mm_en 102 [.ref 60, .int b, .ref 3]) [] (rdm M r f) (fun v M' => v = some (.int (zb (acc b r f).1)) ∧ M' = rdm M (acc b r f).2.1 (acc b r f).2.2) := by
  rw [acc_5 hd]
  show mm_R S (d + 3) 102 0 [some (.ref 60), some (.int b), some (.ref 3)] [] (rdm M r f) _
  refine R_aload_n (q := 1) rfl rfl rfl ?_
  refine R_iload_n (q := 2) rfl rfl rfl ?_
  refine R_putf (q := 5) rfl rfl rfl rd_60 (Nat.le_of_ble_eq_true rfl) rfl (fun hf => absurd hf (by decide)) rfl ?_
  dsimp only [List.set]
  rw [rd_p60]
  refine R_aload_n (q := 6) rfl rfl rfl ?_
  refine R_iconst (q := 7) (v := nI 0) rfl rfl (by decide) ?_
  refine R_putf (q := 10) rfl rfl rfl rd_60 (Nat.le_of_ble_eq_true rfl) rfl (fun hf => absurd hf (by decide)) rfl ?_
  dsimp only [List.set]
  rw [rd_p60]
  refine R_aload_n (q := 11) rfl rfl rfl ?_
  refine R_iconst (q := 12) (v := nI 0) rfl rfl (by decide) ?_
  refine R_putf (q := 15) rfl rfl rfl rd_60 (Nat.le_of_ble_eq_true rfl) rfl (fun hf => absurd hf (by decide)) rfl ?_
  dsimp only [List.set]
  rw [rd_p60]
  try dsimp only
  refine R_iload_n (q := 16) rfl rfl rfl ?_
  refine R_iconst (q := 17) (v := nI 1) rfl rfl (by decide) ?_
  refine R_icmp_ne (q := 20) (t := 26) rfl rfl rfl (fun h17 => ?_) (fun h17 => ?_)
  · rw [if_neg h17]
    refine R_aload_n (q := 27) rfl rfl rfl ?_
    refine R_bipush (q := 29) (v := nI 6) rfl rfl (by decide) ?_
    refine R_putf (q := 32) rfl rfl rfl rd_60 (Nat.le_of_ble_eq_true rfl) rfl (fun hf => absurd hf (by decide)) rfl ?_
    dsimp only [List.set]
    rw [rd_p60]
    refine R_iload_n (q := 33) rfl rfl rfl ?_
    refine R_iconst (q := 34) (v := nI 1) rfl rfl (by decide) ?_
    refine R_icmp_le (q := 37) (t := 41) rfl rfl rfl (fun h34 => ?_) (fun h34 => ?_)
    · refine R_iconst (q := 42) (v := nI 0) rfl rfl (by decide) ?_
      refine R_zreturn rfl rfl (by first | exact Or.inl rfl | exact Or.inr rfl | assumption) ?_
      first
        | exact ⟨congrArg some (congrArg Value.int (zb_f (fun q => i_lnl h34 q)).symm), rfl⟩
        | exact ⟨congrArg some (congrArg Value.int (zb_t (i_nlt h34)).symm), rfl⟩
    · refine R_iconst (q := 38) (v := nI 1) rfl rfl (by decide) ?_
      refine R_goto (t := 42) rfl rfl ?_
      refine R_zreturn rfl rfl (by first | exact Or.inl rfl | exact Or.inr rfl | assumption) ?_
      first
        | exact ⟨congrArg some (congrArg Value.int (zb_f (fun q => i_lnl h34 q)).symm), rfl⟩
        | exact ⟨congrArg some (congrArg Value.int (zb_t (i_nlt h34)).symm), rfl⟩
  · rw [if_pos h17]
    refine R_aload_n (q := 21) rfl rfl rfl ?_
    refine R_aload_n (q := 22) rfl rfl rfl ?_
    refine R_callv1 (q := 25) rfl rfl rfl rfl rd_60 (Nat.le_of_ble_eq_true rfl) rfl ?_
    refine R_mono (c105 hM) (fun v22 M22 hr22 => ?_)
    obtain ⟨rfl, hm22⟩ := hr22
    rw [hm22]
    dsimp only [Option.toList, List.cons_append, List.nil_append]
    refine R_zreturn rfl rfl (Or.inr rfl) ?_
    exact ⟨rfl, rfl⟩
set_option maxRecDepth 8000 in
theorem c100 (hM : M.1 3 = some (.inr (0, [.ref 4]))) (hd : r.due ≤ 8) : mm_R S (d + 4) 100 0 (mm_en 100 [.ref 60, .int b, .ref 3]) [] (rdm M r f) (fun v M' => v = some (.int (zb (acc b r f).1)) ∧ M' = rdm M (acc b r f).2.1 (acc b r f).2.2) := by
  show mm_R S (d + 4) 100 0 [some (.ref 60), some (.int b), some (.ref 3)] [] (rdm M r f) _
  have hcs : r.due = 0 ∨ r.due = 1 ∨ r.due = 2 ∨ r.due = 3 ∨ r.due = 4 ∨ r.due = 5 ∨ r.due = 6 ∨ r.due = 7 ∨ r.due = 8 := by omega
  rcases hcs with hq | hq | hq | hq | hq | hq | hq | hq | hq
  · refine R_aload_n (q := 1) rfl rfl rfl ?_
    refine R_getf (q := 4) rfl rfl rfl rd_60 rfl ?_
    refine R_tsw (t := 52) rfl (by rw [hq]; rfl) ?_
    refine R_aload_n (q := 53) rfl rfl rfl ?_
    refine R_iload_n (q := 54) rfl rfl rfl ?_
    refine R_callv1 (q := 57) rfl rfl rfl rfl rd_60 (Nat.le_of_ble_eq_true rfl) rfl ?_
    refine R_mono (c101 hq) (fun v54 M54 hr54 => ?_)
    obtain ⟨rfl, hm54⟩ := hr54
    rw [hm54]
    dsimp only [Option.toList, List.cons_append, List.nil_append]
    refine R_zreturn rfl rfl (zb_01 _) ?_
    exact ⟨rfl, rfl⟩
  · refine R_aload_n (q := 1) rfl rfl rfl ?_
    refine R_getf (q := 4) rfl rfl rfl rd_60 rfl ?_
    refine R_tsw (t := 58) rfl (by rw [hq]; rfl) ?_
    rw [acc_1 hq]
    refine R_aload_n (q := 59) rfl rfl rfl ?_
    refine R_iload_n (q := 60) rfl rfl rfl ?_
    refine R_putf (q := 63) rfl rfl rfl rd_60 (Nat.le_of_ble_eq_true rfl) rfl (fun hf => absurd hf (by decide)) rfl ?_
    dsimp only [List.set]
    rw [rd_p60]
    refine R_aload_n (q := 64) rfl rfl rfl ?_
    refine R_iconst (q := 65) (v := nI 2) rfl rfl (by decide) ?_
    refine R_putf (q := 68) rfl rfl rfl rd_60 (Nat.le_of_ble_eq_true rfl) rfl (fun hf => absurd hf (by decide)) rfl ?_
    dsimp only [List.set]
    rw [rd_p60]
    refine R_iload_n (q := 69) rfl rfl rfl ?_
    refine R_iconst (q := 70) (v := nI 1) rfl rfl (by decide) ?_
    refine R_icmp_lt (q := 73) (t := 83) rfl rfl rfl (fun h70 => ?_) (fun h70 => ?_)
    · refine R_iconst (q := 84) (v := nI 0) rfl rfl (by decide) ?_
      refine R_zreturn rfl rfl (by first | exact Or.inl rfl | exact Or.inr rfl | assumption) ?_
      first
        | exact ⟨congrArg some (congrArg Value.int (zb_f (fun q => i_lnl q.1 h70)).symm), rfl⟩
        | exact ⟨congrArg some (congrArg Value.int (zb_f (fun q => i_lnl q.2 h76)).symm), rfl⟩
        | exact ⟨congrArg some (congrArg Value.int (zb_t (And.intro (i_nle h70) (i_nle h76))).symm), rfl⟩
    · refine R_iload_n (q := 74) rfl rfl rfl ?_
      refine R_bipush (q := 76) (v := nI 16) rfl rfl (by decide) ?_
      refine R_icmp_gt (q := 79) (t := 83) rfl rfl rfl (fun h76 => ?_) (fun h76 => ?_)
      · refine R_iconst (q := 84) (v := nI 0) rfl rfl (by decide) ?_
        refine R_zreturn rfl rfl (by first | exact Or.inl rfl | exact Or.inr rfl | assumption) ?_
        first
          | exact ⟨congrArg some (congrArg Value.int (zb_f (fun q => i_lnl q.1 h70)).symm), rfl⟩
          | exact ⟨congrArg some (congrArg Value.int (zb_f (fun q => i_lnl q.2 h76)).symm), rfl⟩
          | exact ⟨congrArg some (congrArg Value.int (zb_t (And.intro (i_nle h70) (i_nle h76))).symm), rfl⟩
      · refine R_iconst (q := 80) (v := nI 1) rfl rfl (by decide) ?_
        refine R_goto (t := 84) rfl rfl ?_
        refine R_zreturn rfl rfl (by first | exact Or.inl rfl | exact Or.inr rfl | assumption) ?_
        first
          | exact ⟨congrArg some (congrArg Value.int (zb_f (fun q => i_lnl q.1 h70)).symm), rfl⟩
          | exact ⟨congrArg some (congrArg Value.int (zb_f (fun q => i_lnl q.2 h76)).symm), rfl⟩
          | exact ⟨congrArg some (congrArg Value.int (zb_t (And.intro (i_nle h70) (i_nle h76))).symm), rfl⟩
  · refine R_aload_n (q := 1) rfl rfl rfl ?_
    refine R_getf (q := 4) rfl rfl rfl rd_60 rfl ?_
    refine R_tsw (t := 85) rfl (by rw [hq]; rfl) ?_
    rw [acc_2 hq]
    refine R_aload_n (q := 86) rfl rfl rfl ?_
    refine R_iload_n (q := 87) rfl rfl rfl ?_
    refine R_putf (q := 90) rfl rfl rfl rd_60 (Nat.le_of_ble_eq_true rfl) rfl (fun hf => absurd hf (by decide)) rfl ?_
    dsimp only [List.set]
    rw [rd_p60]
    refine R_aload_n (q := 91) rfl rfl rfl ?_
    refine R_iconst (q := 92) (v := nI 3) rfl rfl (by decide) ?_
    refine R_putf (q := 95) rfl rfl rfl rd_60 (Nat.le_of_ble_eq_true rfl) rfl (fun hf => absurd hf (by decide)) rfl ?_
    dsimp only [List.set]
    rw [rd_p60]
    refine R_iload_n (q := 96) rfl rfl rfl ?_
    refine R_iconst (q := 97) (v := nI 1) rfl rfl (by decide) ?_
    refine R_icmp_lt (q := 100) (t := 104) rfl rfl rfl (fun h97 => ?_) (fun h97 => ?_)
    · refine R_iconst (q := 105) (v := nI 0) rfl rfl (by decide) ?_
      refine R_zreturn rfl rfl (by first | exact Or.inl rfl | exact Or.inr rfl | assumption) ?_
      first
        | exact ⟨congrArg some (congrArg Value.int (zb_f (fun q => i_lnl q h97)).symm), rfl⟩
        | exact ⟨congrArg some (congrArg Value.int (zb_t (i_nle h97)).symm), rfl⟩
    · refine R_iconst (q := 101) (v := nI 1) rfl rfl (by decide) ?_
      refine R_goto (t := 105) rfl rfl ?_
      refine R_zreturn rfl rfl (by first | exact Or.inl rfl | exact Or.inr rfl | assumption) ?_
      first
        | exact ⟨congrArg some (congrArg Value.int (zb_f (fun q => i_lnl q h97)).symm), rfl⟩
        | exact ⟨congrArg some (congrArg Value.int (zb_t (i_nle h97)).symm), rfl⟩
  · refine R_aload_n (q := 1) rfl rfl rfl ?_
    refine R_getf (q := 4) rfl rfl rfl rd_60 rfl ?_
    refine R_tsw (t := 106) rfl (by rw [hq]; rfl) ?_
    rw [acc_3 hq]
    refine R_aload_n (q := 107) rfl rfl rfl ?_
    refine R_iload_n (q := 108) rfl rfl rfl ?_
    refine R_putf (q := 111) rfl rfl rfl rd_60 (Nat.le_of_ble_eq_true rfl) rfl (fun hf => absurd hf (by decide)) rfl ?_
    dsimp only [List.set]
    rw [rd_p60]
    refine R_aload_n (q := 112) rfl rfl rfl ?_
    refine R_iconst (q := 113) (v := nI 4) rfl rfl (by decide) ?_
    refine R_putf (q := 116) rfl rfl rfl rd_60 (Nat.le_of_ble_eq_true rfl) rfl (fun hf => absurd hf (by decide)) rfl ?_
    dsimp only [List.set]
    rw [rd_p60]
    refine R_iload_n (q := 117) rfl rfl rfl ?_
    refine R_bipush (q := 119) (v := nI 16) rfl rfl (by decide) ?_
    refine R_aload_n (q := 120) rfl rfl rfl ?_
    refine R_getf (q := 123) rfl rfl rfl rd_60 rfl ?_
    refine R_isub (q := 124) rfl rfl ?_
    refine R_icmp_gt (q := 127) (t := 131) rfl rfl rfl (fun h124 => ?_) (fun h124 => ?_)
    · refine R_iconst (q := 132) (v := nI 0) rfl rfl (by decide) ?_
      refine R_zreturn rfl rfl (by first | exact Or.inl rfl | exact Or.inr rfl | assumption) ?_
      first
        | exact ⟨congrArg some (congrArg Value.int (zb_f (fun q => i_lnl q h124)).symm), rfl⟩
        | exact ⟨congrArg some (congrArg Value.int (zb_t (i_nle h124)).symm), rfl⟩
    · refine R_iconst (q := 128) (v := nI 1) rfl rfl (by decide) ?_
      refine R_goto (t := 132) rfl rfl ?_
      refine R_zreturn rfl rfl (by first | exact Or.inl rfl | exact Or.inr rfl | assumption) ?_
      first
        | exact ⟨congrArg some (congrArg Value.int (zb_f (fun q => i_lnl q h124)).symm), rfl⟩
        | exact ⟨congrArg some (congrArg Value.int (zb_t (i_nle h124)).symm), rfl⟩
  · refine R_aload_n (q := 1) rfl rfl rfl ?_
    refine R_getf (q := 4) rfl rfl rfl rd_60 rfl ?_
    refine R_tsw (t := 133) rfl (by rw [hq]; rfl) ?_
    rw [acc_4 hq]
    refine R_aload_n (q := 134) rfl rfl rfl ?_
    refine R_iload_n (q := 135) rfl rfl rfl ?_
    refine R_putf (q := 138) rfl rfl rfl rd_60 (Nat.le_of_ble_eq_true rfl) rfl (fun hf => absurd hf (by decide)) rfl ?_
    dsimp only [List.set]
    rw [rd_p60]
    refine R_aload_n (q := 139) rfl rfl rfl ?_
    refine R_iconst (q := 140) (v := nI 5) rfl rfl (by decide) ?_
    refine R_putf (q := 143) rfl rfl rfl rd_60 (Nat.le_of_ble_eq_true rfl) rfl (fun hf => absurd hf (by decide)) rfl ?_
    dsimp only [List.set]
    rw [rd_p60]
    refine R_iload_n (q := 144) rfl rfl rfl ?_
    refine R_bipush (q := 146) (v := nI 16) rfl rfl (by decide) ?_
    refine R_aload_n (q := 147) rfl rfl rfl ?_
    refine R_getf (q := 150) rfl rfl rfl rd_60 rfl ?_
    refine R_isub (q := 151) rfl rfl ?_
    refine R_icmp_gt (q := 154) (t := 158) rfl rfl rfl (fun h151 => ?_) (fun h151 => ?_)
    · refine R_iconst (q := 159) (v := nI 0) rfl rfl (by decide) ?_
      refine R_zreturn rfl rfl (by first | exact Or.inl rfl | exact Or.inr rfl | assumption) ?_
      first
        | exact ⟨congrArg some (congrArg Value.int (zb_f (fun q => i_lnl q h151)).symm), rfl⟩
        | exact ⟨congrArg some (congrArg Value.int (zb_t (i_nle h151)).symm), rfl⟩
    · refine R_iconst (q := 155) (v := nI 1) rfl rfl (by decide) ?_
      refine R_goto (t := 159) rfl rfl ?_
      refine R_zreturn rfl rfl (by first | exact Or.inl rfl | exact Or.inr rfl | assumption) ?_
      first
        | exact ⟨congrArg some (congrArg Value.int (zb_f (fun q => i_lnl q h151)).symm), rfl⟩
        | exact ⟨congrArg some (congrArg Value.int (zb_t (i_nle h151)).symm), rfl⟩
  · refine R_aload_n (q := 1) rfl rfl rfl ?_
    refine R_getf (q := 4) rfl rfl rfl rd_60 rfl ?_
    refine R_tsw (t := 160) rfl (by rw [hq]; rfl) ?_
    refine R_aload_n (q := 161) rfl rfl rfl ?_
    refine R_iload_n (q := 162) rfl rfl rfl ?_
    refine R_aload_n (q := 163) rfl rfl rfl ?_
    refine R_callv2 (q := 166) rfl rfl rfl rfl rd_60 (Nat.le_of_ble_eq_true rfl) rfl ?_
    refine R_mono (c102 hM hq) (fun v163 M163 hr163 => ?_)
    obtain ⟨rfl, hm163⟩ := hr163
    rw [hm163]
    dsimp only [Option.toList, List.cons_append, List.nil_append]
    refine R_zreturn rfl rfl (zb_01 _) ?_
    exact ⟨rfl, rfl⟩
  · refine R_aload_n (q := 1) rfl rfl rfl ?_
    refine R_getf (q := 4) rfl rfl rfl rd_60 rfl ?_
    refine R_tsw (t := 167) rfl (by rw [hq]; rfl) ?_
    rw [acc_6 hq]
    refine R_aload_n (q := 168) rfl rfl rfl ?_
    refine R_iload_n (q := 169) rfl rfl rfl ?_
    refine R_calls1 (q := 172) rfl rfl rfl rfl (Nat.le_of_ble_eq_true rfl) rfl ?_
    refine R_mono (c103) (fun v169 M169 hr169 => ?_)
    obtain ⟨rfl, hm169⟩ := hr169
    rw [hm169]
    dsimp only [Option.toList, List.cons_append, List.nil_append]
    refine R_putf (q := 175) rfl rfl rfl rd_60 (Nat.le_of_ble_eq_true rfl) rfl (fun hf => absurd hf (by decide)) rfl ?_
    dsimp only [List.set]
    rw [rd_p60]
    refine R_aload_n (q := 176) rfl rfl rfl ?_
    refine R_bipush (q := 178) (v := nI 7) rfl rfl (by decide) ?_
    refine R_putf (q := 181) rfl rfl rfl rd_60 (Nat.le_of_ble_eq_true rfl) rfl (fun hf => absurd hf (by decide)) rfl ?_
    dsimp only [List.set]
    rw [rd_p60]
    refine R_aload_n (q := 182) rfl rfl rfl ?_
    refine R_aload_n (q := 183) rfl rfl rfl ?_
    refine R_getf (q := 186) rfl rfl rfl rd_60 rfl ?_
    refine R_aload_n (q := 187) rfl rfl rfl ?_
    refine R_getf (q := 190) rfl rfl rfl rd_60 rfl ?_
    refine R_aload_n (q := 191) rfl rfl rfl ?_
    refine R_getf (q := 194) rfl rfl rfl rd_60 rfl ?_
    refine R_callv3 (q := 197) rfl rfl rfl rfl rd_60 (Nat.le_of_ble_eq_true rfl) rfl ?_
    refine R_mono (c104) (fun v194 M194 hr194 => ?_)
    obtain ⟨rfl, hm194⟩ := hr194
    rw [hm194]
    dsimp only [Option.toList, List.cons_append, List.nil_append]
    refine R_zreturn rfl rfl (zb_01 _) ?_
    exact ⟨rfl, rfl⟩
  · refine R_aload_n (q := 1) rfl rfl rfl ?_
    refine R_getf (q := 4) rfl rfl rfl rd_60 rfl ?_
    refine R_tsw (t := 198) rfl (by rw [hq]; rfl) ?_
    rw [acc_7 hq]
    refine R_aload_n (q := 199) rfl rfl rfl ?_
    refine R_iload_n (q := 200) rfl rfl rfl ?_
    refine R_calls1 (q := 203) rfl rfl rfl rfl (Nat.le_of_ble_eq_true rfl) rfl ?_
    refine R_mono (c103) (fun v200 M200 hr200 => ?_)
    obtain ⟨rfl, hm200⟩ := hr200
    rw [hm200]
    dsimp only [Option.toList, List.cons_append, List.nil_append]
    refine R_putf (q := 206) rfl rfl rfl rd_60 (Nat.le_of_ble_eq_true rfl) rfl (fun hf => absurd hf (by decide)) rfl ?_
    dsimp only [List.set]
    rw [rd_p60]
    refine R_aload_n (q := 207) rfl rfl rfl ?_
    refine R_aload_n (q := 208) rfl rfl rfl ?_
    refine R_getf (q := 211) rfl rfl rfl rd_60 rfl ?_
    refine R_aload_n (q := 212) rfl rfl rfl ?_
    refine R_getf (q := 215) rfl rfl rfl rd_60 rfl ?_
    refine R_aload_n (q := 216) rfl rfl rfl ?_
    refine R_getf (q := 219) rfl rfl rfl rd_60 rfl ?_
    refine R_callv3 (q := 222) rfl rfl rfl rfl rd_60 (Nat.le_of_ble_eq_true rfl) rfl ?_
    refine R_mono (c104) (fun v219 M219 hr219 => ?_)
    obtain ⟨rfl, hm219⟩ := hr219
    rw [hm219]
    dsimp only [Option.toList, List.cons_append, List.nil_append]
    refine R_if_eq (q := 225) (t := 237) rfl rfl rfl (fun h222 => ?_) (fun h222 => ?_)
    · refine R_iconst (q := 238) (v := nI 0) rfl rfl (by decide) ?_
      refine R_zreturn rfl rfl (by first | exact Or.inl rfl | exact Or.inr rfl | assumption) ?_
      first
        | (rw [if_neg (by rw [zb_eq0.mp h222]; decide)]; refine ⟨rfl, ?_⟩; rw [hq])
        | exact ⟨rfl, rfl⟩
    · rw [if_pos (zb_ne0.mp h222)]
      refine R_aload_n (q := 226) rfl rfl rfl ?_
      refine R_aload_n (q := 227) rfl rfl rfl ?_
      refine R_callv1 (q := 230) rfl rfl rfl rfl rd_60 (Nat.le_of_ble_eq_true rfl) rfl ?_
      refine R_mono (c105 hM) (fun v227 M227 hr227 => ?_)
      obtain ⟨rfl, hm227⟩ := hr227
      rw [hm227]
      dsimp only [Option.toList, List.cons_append, List.nil_append]
      refine R_if_eq (q := 233) (t := 237) rfl rfl rfl (fun h230 => absurd h230 (by decide)) (fun h230 => ?_)
      refine R_iconst (q := 234) (v := nI 1) rfl rfl (by decide) ?_
      refine R_goto (t := 238) rfl rfl ?_
      refine R_zreturn rfl rfl (by first | exact Or.inl rfl | exact Or.inr rfl | assumption) ?_
      first
        | (rw [if_neg (by rw [zb_eq0.mp h222]; decide)]; refine ⟨rfl, ?_⟩; rw [hq])
        | exact ⟨rfl, rfl⟩
  · refine R_aload_n (q := 1) rfl rfl rfl ?_
    refine R_getf (q := 4) rfl rfl rfl rd_60 rfl ?_
    refine R_tsw (t := 239) rfl (by rw [hq]; rfl) ?_
    rw [acc_8 hq]
    refine R_iconst (q := 240) (v := nI 0) rfl rfl (by decide) ?_
    refine R_zreturn rfl rfl (by first | exact Or.inl rfl | exact Or.inr rfl | assumption) ?_
    exact ⟨rfl, rfl⟩
def rdg (p : Nat → Int32) : Nat → Nat → RA → Int32 × RA
  | 0, i, u => (if u.2.1.due = 8 then u.2.1.tot else (-1) - nI i, u)
  | j + 1, i, u => if (acc (p i) u.2.1 u.2.2).1 = true then rdg p j (i + 1) (acc (p i) u.2.1 u.2.2) else ((-1) - nI i, acc (p i) u.2.1 u.2.2)
theorem acc_due {r : RS} {f : Nat → Int32} (h : r.due ≤ 8) : (acc b r f).2.1.due ≤ 8 := by
  have hfin : ∀ q : RS, (rfin q).due ≤ 8 := by
    intro q
    show (if 0 < q.ln - nI 1 then 3 else 0) ≤ 8
    split <;> decide
  have hcs : r.due = 0 ∨ r.due = 1 ∨ r.due = 2 ∨ r.due = 3 ∨ r.due = 4 ∨ r.due = 5 ∨ r.due = 6 ∨ r.due = 7 ∨ r.due = 8 := by omega
  rcases hcs with hq | hq | hq | hq | hq | hq | hq | hq | hq
  · rw [acc_0 hq]; show (if b = 0 then 8 else 1) ≤ 8; split <;> decide
  · rw [acc_1 hq]; exact Nat.le_of_ble_eq_true rfl
  · rw [acc_2 hq]; exact Nat.le_of_ble_eq_true rfl
  · rw [acc_3 hq]; exact Nat.le_of_ble_eq_true rfl
  · rw [acc_4 hq]; exact Nat.le_of_ble_eq_true rfl
  · rw [acc_5 hq]
    split
    · exact hfin _
    · exact Nat.le_of_ble_eq_true rfl
  · rw [acc_6 hq]; exact Nat.le_of_ble_eq_true rfl
  · rw [acc_7 hq]
    split
    · exact hfin _
    · exact Nat.le_of_ble_eq_true rfl
  · rw [acc_8 hq]; exact h
def rst (r : RS) : RS := ⟨0, r.w, r.h, r.ln, r.x, r.y, r.cp, r.dx, r.dy, nI 0⟩
def rdd (n : Nat) (p : Nat → Int32) (r : RS) (f : Nat → Int32) : Int32 × RA := rdg p n 0 (true, rst r, ifl (fun _ => nI 0) f 16)
set_option maxRecDepth 8000 in
theorem c99 (hM : M.1 3 = some (.inr (0, [.ref 4]))) (hT : TP M 53 n p) : mm_R S (d + 5) 99 0 (mm_en 99 [.ref 60, .ref 53, .ref 3]) [] (rdm M r f) (fun v M' => ∀ w, w = rdd n p r f → v = some (.int w.1) ∧ M' = rdm M w.2.2.1 w.2.2.2) := by
  have hn := hT.2.2
  have hl : ∀ (j i : Nat) (u : RA), i + j = n → u.2.1.due ≤ 8 → mm_R S (d + 5) 99 16 [some (.ref 60), some (.ref 53), some (.ref 3), some (.int (nI i))] [] (rdm M u.2.1 u.2.2) (fun v M' => ∀ w, w = rdg p j i u → v = some (.int w.1) ∧ M' = rdm M w.2.2.1 w.2.2.2) := by
    intro j
    induction j with
    | zero =>
      intro i u hi hu
      have hin : i = n := by omega
      subst hin
      refine R_iload_n (q := 17) rfl rfl rfl ?_
      refine R_aload_n (q := 18) rfl rfl rfl ?_
      refine R_callv0 (q := 21) rfl rfl rfl rfl (rd_TP hT).1 (Nat.le_of_ble_eq_true rfl) rfl ?_
      refine R_mono (c93 (rd_TP hT)) (fun v18 M18 hr18 => ?_)
      obtain ⟨rfl, hm18⟩ := hr18
      rw [hm18]
      dsimp only [Option.toList, List.cons_append, List.nil_append]
      refine R_icmp_ge (q := 24) (t := 47) rfl rfl rfl (fun h21 => ?_) (fun h21 => absurd (nI_le (by omega) (by omega)) h21)
      refine R_aload_n (q := 48) rfl rfl rfl ?_
      refine R_getf (q := 51) rfl rfl rfl rd_60 rfl ?_
      refine R_bipush (q := 53) (v := nI 8) rfl rfl (by decide) ?_
      refine R_icmp_ne (q := 56) (t := 63) rfl rfl rfl (fun h53 => ?_) (fun h53 => ?_)
      · refine R_iconst (q := 64) (v := (-1)) rfl rfl (by decide) ?_
        refine R_aload_n (q := 65) rfl rfl rfl ?_
        refine R_callv0 (q := 68) rfl rfl rfl rfl (rd_TP hT).1 (Nat.le_of_ble_eq_true rfl) rfl ?_
        refine R_mono (c93 (rd_TP hT)) (fun v65 M65 hr65 => ?_)
        obtain ⟨rfl, hm65⟩ := hr65
        rw [hm65]
        dsimp only [Option.toList, List.cons_append, List.nil_append]
        refine R_isub (q := 69) rfl rfl ?_
        refine R_ireturn rfl rfl ?_
        intro w hw
        rw [hw]
        unfold rdg
        first
          | (rw [if_pos (nI_inj (by omega) (by decide) h53)]; exact ⟨rfl, rfl⟩)
          | (rw [if_neg (fun q => h53 (by rw [q]))]; exact ⟨rfl, rfl⟩)
      · refine R_aload_n (q := 57) rfl rfl rfl ?_
        refine R_getf (q := 60) rfl rfl rfl rd_60 rfl ?_
        refine R_goto (t := 69) rfl rfl ?_
        refine R_ireturn rfl rfl ?_
        intro w hw
        rw [hw]
        unfold rdg
        first
          | (rw [if_pos (nI_inj (by omega) (by decide) h53)]; exact ⟨rfl, rfl⟩)
          | (rw [if_neg (fun q => h53 (by rw [q]))]; exact ⟨rfl, rfl⟩)
    | succ j ih =>
      intro i u hi hu
      have hst : rdg p (j + 1) i u = (if (acc (p i) u.2.1 u.2.2).1 = true then rdg p j (i + 1) (acc (p i) u.2.1 u.2.2) else ((-1) - nI i, acc (p i) u.2.1 u.2.2)) := rfl
      rw [hst]
      refine R_iload_n (q := 17) rfl rfl rfl ?_
      refine R_aload_n (q := 18) rfl rfl rfl ?_
      refine R_callv0 (q := 21) rfl rfl rfl rfl (rd_TP hT).1 (Nat.le_of_ble_eq_true rfl) rfl ?_
      refine R_mono (c93 (rd_TP hT)) (fun v18 M18 hr18 => ?_)
      obtain ⟨rfl, hm18⟩ := hr18
      rw [hm18]
      dsimp only [Option.toList, List.cons_append, List.nil_append]
      refine R_icmp_ge (q := 24) (t := 47) rfl rfl rfl (fun h21 => absurd h21 (nI_ge (by omega) (by omega))) (fun h21 => ?_)
      refine R_aload_n (q := 25) rfl rfl rfl ?_
      refine R_aload_n (q := 26) rfl rfl rfl ?_
      refine R_iload_n (q := 27) rfl rfl rfl ?_
      refine R_callv1 (q := 30) rfl rfl rfl rfl (rd_TP hT).1 (Nat.le_of_ble_eq_true rfl) rfl ?_
      refine R_mono (c95 (rd_TP hT)) (fun v27 M27 hr27 => ?_)
      obtain ⟨rfl, hm27⟩ := hr27
      rw [hm27]
      dsimp only [Option.toList, List.cons_append, List.nil_append]
      rw [if_pos (by rw [i_n i (by omega)]; omega), cl_nI (by omega)]
      refine R_aload_n (q := 31) rfl rfl rfl ?_
      refine R_callv2 (q := 34) rfl rfl rfl rfl rd_60 (Nat.le_of_ble_eq_true rfl) rfl ?_
      refine R_mono (c100 hM hu) (fun v31 M31 hr31 => ?_)
      obtain ⟨rfl, hm31⟩ := hr31
      rw [hm31]
      dsimp only [Option.toList, List.cons_append, List.nil_append]
      refine R_if_ne (q := 37) (t := 41) rfl rfl rfl (fun h34 => ?_) (fun h34 => ?_)
      · refine R_iinc (q := 44) rfl rfl rfl (nI_i1 i) rfl ?_
        dsimp only [List.set]
        refine R_goto (t := 16) rfl rfl ?_
        rw [if_pos (zb_ne0.mp h34)]
        exact ih (i + 1) (acc (p i) u.2.1 u.2.2) (by omega) (acc_due hu)
      · refine R_iconst (q := 38) (v := (-1)) rfl rfl (by decide) ?_
        refine R_iload_n (q := 39) rfl rfl rfl ?_
        refine R_isub (q := 40) rfl rfl ?_
        refine R_ireturn rfl rfl ?_
        intro w hw
        rw [hw, if_neg (by rw [zb_eq0.mp h34]; decide)]
        exact ⟨rfl, rfl⟩
  show mm_R S (d + 5) 99 0 [some (.ref 60), some (.ref 53), some (.ref 3), none] [] (rdm M r f) _
  refine R_aload_n (q := 1) rfl rfl rfl ?_
  refine R_callv0 (q := 4) rfl rfl rfl rfl (rd_CA hM).1 (Nat.le_of_ble_eq_true rfl) rfl ?_
  refine R_mono (c7 (rd_CA hM)) (fun v1 M1 hr1 => ?_)
  obtain ⟨rfl, hm1⟩ := hr1
  rw [hm1, rd_p4]
  dsimp only [Option.toList, List.cons_append, List.nil_append]
  refine R_aload_n (q := 5) rfl rfl rfl ?_
  refine R_iconst (q := 6) (v := nI 0) rfl rfl (by decide) ?_
  refine R_putf (q := 9) rfl rfl rfl rd_60 (Nat.le_of_ble_eq_true rfl) rfl (fun hf => absurd hf (by decide)) rfl ?_
  dsimp only [List.set]
  rw [rd_p60]
  refine R_aload_n (q := 10) rfl rfl rfl ?_
  refine R_iconst (q := 11) (v := nI 0) rfl rfl (by decide) ?_
  refine R_putf (q := 14) rfl rfl rfl rd_60 (Nat.le_of_ble_eq_true rfl) rfl (fun hf => absurd hf (by decide)) rfl ?_
  dsimp only [List.set]
  rw [rd_p60]
  refine R_iconst (q := 15) (v := nI 0) rfl rfl (by decide) ?_
  refine R_istore_n (q := 16) rfl rfl (Nat.le_of_ble_eq_true rfl) rfl ?_
  dsimp only [List.set]
  exact hl n 0 (true, rst r, ifl (fun _ => nI 0) f 16) (by omega) (by show 0 ≤ 8; decide)
end P35
