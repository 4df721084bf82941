/-! ===== the reference's own calls, XVIII: cut, cutOn ===== -/
def CTR (BL LF CT : Nat → Int32) (H V P : Nat → Nat → Bool) : Prop := (∀ y x, y < 17 → x < 16 → BL (16 * y + x) = zb (H y x)) ∧ (∀ y x, y < 16 → x < 17 → LF (17 * y + x) = zb (V y x)) ∧ ∀ y x, y < 17 → x < 17 → CT (17 * y + x) = zb (P y x)
theorem CTR_L {BL LF CT : Nat → Int32} {H V P H' P' : Nat → Nat → Bool} {x y : Nat} (h : CTR BL LF CT H V P) (hx : x < 16) (hy : y < 17) (hH : ∀ y' x', y' < 17 → x' < 16 → H' y' x' = (H y' x' || decide (y' = y ∧ x' = x))) (hP : ∀ y' x', y' < 17 → x' < 17 → P' y' x' = (P y' x' || decide (y' = y ∧ (x' = x ∨ x' = x + 1)))) : CTR (upd BL (16 * y + x) (nI 1)) LF (upd (upd CT (17 * y + x) (nI 1)) (17 * y + x + 1) (nI 1)) H' V P' := by
  refine ⟨fun y' x' h1 h2 => ?_, h.2.1, fun y' x' h1 h2 => ?_⟩
  · rw [hH y' x' h1 h2]
    by_cases hq : y' = y ∧ x' = x
    · rw [hq.1, hq.2, upd_e, decide_eq_true ⟨rfl, rfl⟩, Bool.or_true]; rfl
    · rw [upd_n (by omega), decide_eq_false hq, Bool.or_false]; exact h.1 y' x' h1 h2
  · rw [hP y' x' h1 h2]
    by_cases hq : y' = y ∧ (x' = x ∨ x' = x + 1)
    · rw [decide_eq_true hq, Bool.or_true]
      rcases hq with ⟨q1, q2 | q2⟩
      · rw [q1, q2, upd_n (by omega), upd_e]; rfl
      · rw [q1, q2, show 17 * y + (x + 1) = 17 * y + x + 1 by omega, upd_e]; rfl
    · rw [upd_n (by omega), upd_n (by omega), decide_eq_false hq, Bool.or_false]; exact h.2.2 y' x' h1 h2
theorem CTR_U {BL LF CT : Nat → Int32} {H V P V' P' : Nat → Nat → Bool} {x y : Nat} (h : CTR BL LF CT H V P) (hx : x < 17) (hy : y < 16) (hV : ∀ y' x', y' < 16 → x' < 17 → V' y' x' = (V y' x' || decide (y' = y ∧ x' = x))) (hP : ∀ y' x', y' < 17 → x' < 17 → P' y' x' = (P y' x' || decide (x' = x ∧ (y' = y ∨ y' = y + 1)))) : CTR BL (upd LF (17 * y + x) (nI 1)) (upd (upd CT (17 * y + x) (nI 1)) (17 * (y + 1) + x) (nI 1)) H V' P' := by
  refine ⟨h.1, fun y' x' h1 h2 => ?_, fun y' x' h1 h2 => ?_⟩
  · rw [hV y' x' h1 h2]
    by_cases hq : y' = y ∧ x' = x
    · rw [hq.1, hq.2, upd_e, decide_eq_true ⟨rfl, rfl⟩, Bool.or_true]; rfl
    · rw [upd_n (by omega), decide_eq_false hq, Bool.or_false]; exact h.2.1 y' x' h1 h2
  · rw [hP y' x' h1 h2]
    by_cases hq : x' = x ∧ (y' = y ∨ y' = y + 1)
    · rw [decide_eq_true hq, Bool.or_true]
      rcases hq with ⟨q1, q2 | q2⟩
      · rw [q1, q2, upd_n (by omega), upd_e]; rfl
      · rw [q1, q2, upd_e]; rfl
    · rw [upd_n (by omega), upd_n (by omega), decide_eq_false hq, Bool.or_false]; exact h.2.2 y' x' h1 h2
theorem CTR_cg {BL LF CT : Nat → Int32} {H V P H' V' P' : Nat → Nat → Bool} (h : CTR BL LF CT H V P) (h1 : ∀ y x, y < 17 → x < 16 → H' y x = H y x) (h2 : ∀ y x, y < 16 → x < 17 → V' y x = V y x) (h3 : ∀ y x, y < 17 → x < 17 → P' y x = P y x) : CTR BL LF CT H' V' P' := ⟨fun y x a b => by rw [h1 y x a b]; exact h.1 y x a b, fun y x a b => by rw [h2 y x a b]; exact h.2.1 y x a b, fun y x a b => by rw [h3 y x a b]; exact h.2.2 y x a b⟩
/-- a level line from s to t, cut -/
def HI (H : Nat → Nat → Bool) (ln s t : Nat) : Nat → Nat → Bool := fun y x => H y x || decide (y = ln ∧ s ≤ x ∧ x < t)
def PI (P : Nat → Nat → Bool) (ln s t : Nat) : Nat → Nat → Bool := fun y x => P y x || decide (y = ln ∧ (s ≤ x ∧ x ≤ t) ∧ s < t)
theorem or_dec {a : Bool} {p q r : Prop} [Decidable p] [Decidable q] [Decidable r] (h : r ↔ p ∨ q) : (a || decide r) = ((a || decide p) || decide q) := by
  rw [Bool.or_assoc]
  congr 1
  rw [← Bool.decide_or]
  exact decide_eq_decide.mpr h
def rt (g c : Nat → Bool) : Nat → Nat → Nat
  | 0, e => e
  | j + 1, e => if g e = true then (if c (e + 1) = true then e + 1 else rt g c j (e + 1)) else e
def lt' (g c : Nat → Bool) : Nat → Nat
  | 0 => 0
  | e + 1 => if g e = true then (if c e = true then e else lt' g c e) else e + 1
theorem rt_go {g c : Nat → Bool} : ∀ j e, (if c (e + 1) = true then e + 1 else rt g c j (e + 1)) = goR g c j (e + 1) := by
  intro j
  induction j with
  | zero => intro e; show (if c (e + 1) = true then e + 1 else e + 1) = e + 1; split <;> rfl
  | succ j ih =>
    intro e
    show (if c (e + 1) = true then e + 1 else if g (e + 1) = true then (if c (e + 1 + 1) = true then e + 1 + 1 else rt g c j (e + 1 + 1)) else e + 1) = (if g (e + 1) = true ∧ c (e + 1) = false then goR g c j (e + 1 + 1) else e + 1)
    rw [ih (e + 1)]
    by_cases h1 : c (e + 1) = true
    · rw [if_pos h1, if_neg (fun q => by rw [h1] at q; exact absurd q.2 (by decide))]
    · rw [if_neg h1]
      by_cases h2 : g (e + 1) = true
      · rw [if_pos h2, if_pos ⟨h2, Bool.eq_false_iff.mpr h1⟩]
      · rw [if_neg h2, if_neg (fun q => h2 q.1)]
theorem lt_go {g c : Nat → Bool} : ∀ e, (if c e = true then e else lt' g c e) = goL g c e := by
  intro e
  induction e with
  | zero => show (if c 0 = true then 0 else 0) = 0; split <;> rfl
  | succ e ih =>
    show (if c (e + 1) = true then e + 1 else if g e = true then (if c e = true then e else lt' g c e) else e + 1) = (if g e = true ∧ c (e + 1) = false then goL g c e else e + 1)
    rw [ih]
    by_cases h1 : c (e + 1) = true
    · rw [if_pos h1, if_neg (fun q => by rw [h1] at q; exact absurd q.2 (by decide))]
    · rw [if_neg h1]
      by_cases h2 : g e = true
      · rw [if_pos h2, if_pos ⟨h2, Bool.eq_false_iff.mpr h1⟩]
      · rw [if_neg h2, if_neg (fun q => h2 q.1)]
theorem qlev_C {BL LF CT : Nat → Int32} {q : QS} {ln s t : Nat} (h : CTR BL LF CT (HI (hB q) ln s t) (vB q) (PI (pB q) ln s t)) (hst : s < t) (ht : t ≤ 16) : CTR BL LF CT (hB (qlev q ln s t)) (vB (qlev q ln s t)) (pB (qlev q ln s t)) := by
  refine CTR_cg h (fun y x h1 h2 => ?_) (fun y x _ _ => rfl) (fun y x h1 h2 => ?_)
  · unfold HI
    apply Bool.eq_iff_iff.mpr
    rw [(qlev_b (by omega) ht (by omega)).1, Bool.or_eq_true, decide_eq_true_iff]
  · unfold PI
    apply Bool.eq_iff_iff.mpr
    rw [(qlev_b (by omega) ht (by omega)).2.2.1, Bool.or_eq_true, decide_eq_true_iff]
    exact ⟨fun z => z.imp id (fun w => ⟨w.1, w.2, hst⟩), fun z => z.imp id (fun w => ⟨w.1, w.2.1⟩)⟩
theorem nI_mm (k : Nat) (h : 1 ≤ k) (hk : k < 1000) : nI k + (-1) = nI (k - 1) := by
  have := nI_m1 (k - 1) (by omega)
  rw [show k - 1 + 1 = k by omega] at this
  exact this
theorem goR_cg {g g' c c' : Nat → Bool} : ∀ k e, (∀ t, e ≤ t → t < e + k → g t = g' t) → (∀ t, e ≤ t → t < e + k → c t = c' t) → goR g c k e = goR g' c' k e := by
  intro k
  induction k with
  | zero => intro e _ _; rfl
  | succ k ih =>
    intro e h1 h2
    show (if g e = true ∧ c e = false then goR g c k (e + 1) else e) = (if g' e = true ∧ c' e = false then goR g' c' k (e + 1) else e)
    rw [h1 e (by omega) (by omega), h2 e (by omega) (by omega), ih (e + 1) (fun t t1 t2 => h1 t (by omega) (by omega)) (fun t t1 t2 => h2 t (by omega) (by omega))]
theorem goL_cg {g g' c c' : Nat → Bool} : ∀ e, (∀ t, t < e → g t = g' t) → (∀ t, t ≤ e → c t = c' t) → goL g c e = goL g' c' e := by
  intro e
  induction e with
  | zero => intro _ _; rfl
  | succ e ih =>
    intro h1 h2
    show (if g e = true ∧ c (e + 1) = false then goL g c e else e + 1) = (if g' e = true ∧ c' (e + 1) = false then goL g' c' e else e + 1)
    rw [h1 e (by omega), h2 (e + 1) (by omega), ih (fun t t1 => h1 t (by omega)) (fun t t1 => h2 t (by omega))]
section P69
variable {S : mm_S} {d : Nat} {M : mm_M} {A : AS} {I : Nat → Int32} {sh : Nat → Nat → Int32} {o : OS} {l : LYS} {pi fa tp : IS}
set_option maxRecDepth 8000 in
theorem m184_L {x y : Nat} {BL LF CT : Nat → Int32} (hx : x < 16) (hy : y < 17) : mm_R S (d + 0) 184 0 (mm_en 184 [.ref 73, .int (nI x), .int (nI y), .int (zb true)]) [] (mdm M (upa (upa (upa A 101 BL) 102 LF) 103 CT) I) (fun v M' => v = none ∧ M' = (mdm M (upa (upa (upa A 101 (upd BL (16 * y + x) (nI 1))) 102 LF) 103 (upd (upd CT (17 * y + x) (nI 1)) (17 * y + x + 1) (nI 1))) I)) := by
  show mm_R S (d + 0) 184 0 [some (.ref 73), some (.int (nI x)), some (.int (nI y)), some (.int (zb true))] [] (mdm M (upa (upa (upa A 101 BL) 102 LF) 103 CT) I) _
  refine R_iload_n (q := 1) rfl rfl rfl ?_
  refine R_if_eq (q := 4) (t := 19) rfl rfl rfl (fun h1 => absurd h1 (by decide)) (fun h1 => ?_)
  refine R_aload_n (q := 5) rfl rfl rfl ?_
  refine R_getf (q := 8) rfl rfl rfl md_73 rfl ?_
  refine R_bipush (q := 10) (v := nI 16) rfl rfl (by decide) ?_
  refine R_iload_n (q := 11) rfl rfl rfl ?_
  refine R_imul (q := 12) rfl rfl ?_
  rw [pk_mul]
  refine R_iload_n (q := 13) rfl rfl rfl ?_
  refine R_iadd (q := 14) rfl rfl ?_
  rw [nI_add]
  refine R_iconst (q := 15) (v := nI 1) rfl rfl (by decide) ?_
  refine R_bastore (q := 16) rfl rfl md_101 (by first | assumption | exact in_nI (by omega) (by decide)) (by first | exact Or.inl rfl | exact Or.inr rfl) ?_
  rw [cl_nI (by omega)]
  rw [md_p101]
  rw [upa_cm (a := 103) (b := 101) (by decide), upa_cm (a := 102) (b := 101) (by decide), upa_u, show upa (upa (upa A 101 BL) 102 LF) 103 CT 101 = BL from rfl]
  refine R_goto (t := 31) rfl rfl ?_
  refine R_aload_n (q := 32) rfl rfl rfl ?_
  refine R_getf (q := 35) rfl rfl rfl md_73 rfl ?_
  refine R_bipush (q := 37) (v := nI 17) rfl rfl (by decide) ?_
  refine R_iload_n (q := 38) rfl rfl rfl ?_
  refine R_imul (q := 39) rfl rfl ?_
  rw [pk_mul]
  refine R_iload_n (q := 40) rfl rfl rfl ?_
  refine R_iadd (q := 41) rfl rfl ?_
  rw [nI_add]
  refine R_iconst (q := 42) (v := nI 1) rfl rfl (by decide) ?_
  refine R_bastore (q := 43) rfl rfl md_103 (by first | assumption | exact in_nI (by omega) (by decide)) (by first | exact Or.inl rfl | exact Or.inr rfl) ?_
  rw [cl_nI (by omega)]
  rw [md_p103]
  rw [upa_u, upa_e]
  refine R_aload_n (q := 44) rfl rfl rfl ?_
  refine R_getf (q := 47) rfl rfl rfl md_73 rfl ?_
  refine R_iload_n (q := 48) rfl rfl rfl ?_
  refine R_if_eq (q := 51) (t := 62) rfl rfl rfl (fun h48 => absurd h48 (by decide)) (fun h48 => ?_)
  refine R_bipush (q := 53) (v := nI 17) rfl rfl (by decide) ?_
  refine R_iload_n (q := 54) rfl rfl rfl ?_
  refine R_imul (q := 55) rfl rfl ?_
  rw [pk_mul]
  refine R_iload_n (q := 56) rfl rfl rfl ?_
  refine R_iadd (q := 57) rfl rfl ?_
  rw [nI_add]
  refine R_iconst (q := 58) (v := nI 1) rfl rfl (by decide) ?_
  refine R_iadd (q := 59) rfl rfl ?_
  rw [nI_add]
  refine R_goto (t := 70) rfl rfl ?_
  refine R_iconst (q := 71) (v := nI 1) rfl rfl (by decide) ?_
  refine R_bastore (q := 72) rfl rfl md_103 (by first | assumption | exact in_nI (by omega) (by decide)) (by first | exact Or.inl rfl | exact Or.inr rfl) ?_
  rw [cl_nI (by omega)]
  rw [md_p103]
  rw [upa_u, upa_e]
  refine R_return rfl rfl ?_
  exact ⟨rfl, rfl⟩
set_option maxRecDepth 8000 in
theorem m184_U {x y : Nat} {BL LF CT : Nat → Int32} (hx : x < 17) (hy : y < 16) : mm_R S (d + 0) 184 0 (mm_en 184 [.ref 73, .int (nI x), .int (nI y), .int (zb false)]) [] (mdm M (upa (upa (upa A 101 BL) 102 LF) 103 CT) I) (fun v M' => v = none ∧ M' = (mdm M (upa (upa (upa A 101 BL) 102 (upd LF (17 * y + x) (nI 1))) 103 (upd (upd CT (17 * y + x) (nI 1)) (17 * (y + 1) + x) (nI 1))) I)) := by
  show mm_R S (d + 0) 184 0 [some (.ref 73), some (.int (nI x)), some (.int (nI y)), some (.int (zb false))] [] (mdm M (upa (upa (upa A 101 BL) 102 LF) 103 CT) I) _
  refine R_iload_n (q := 1) rfl rfl rfl ?_
  refine R_if_eq (q := 4) (t := 19) rfl rfl rfl (fun h1 => ?_) (fun h1 => absurd rfl h1)
  refine R_aload_n (q := 20) rfl rfl rfl ?_
  refine R_getf (q := 23) rfl rfl rfl md_73 rfl ?_
  refine R_bipush (q := 25) (v := nI 17) rfl rfl (by decide) ?_
  refine R_iload_n (q := 26) rfl rfl rfl ?_
  refine R_imul (q := 27) rfl rfl ?_
  rw [pk_mul]
  refine R_iload_n (q := 28) rfl rfl rfl ?_
  refine R_iadd (q := 29) rfl rfl ?_
  rw [nI_add]
  refine R_iconst (q := 30) (v := nI 1) rfl rfl (by decide) ?_
  refine R_bastore (q := 31) rfl rfl md_102 (by first | assumption | exact in_nI (by omega) (by decide)) (by first | exact Or.inl rfl | exact Or.inr rfl) ?_
  rw [cl_nI (by omega)]
  rw [md_p102]
  rw [upa_cm (a := 103) (b := 102) (by decide), upa_u, show upa (upa (upa A 101 BL) 102 LF) 103 CT 102 = LF from rfl]
  refine R_aload_n (q := 32) rfl rfl rfl ?_
  refine R_getf (q := 35) rfl rfl rfl md_73 rfl ?_
  refine R_bipush (q := 37) (v := nI 17) rfl rfl (by decide) ?_
  refine R_iload_n (q := 38) rfl rfl rfl ?_
  refine R_imul (q := 39) rfl rfl ?_
  rw [pk_mul]
  refine R_iload_n (q := 40) rfl rfl rfl ?_
  refine R_iadd (q := 41) rfl rfl ?_
  rw [nI_add]
  refine R_iconst (q := 42) (v := nI 1) rfl rfl (by decide) ?_
  refine R_bastore (q := 43) rfl rfl md_103 (by first | assumption | exact in_nI (by omega) (by decide)) (by first | exact Or.inl rfl | exact Or.inr rfl) ?_
  rw [cl_nI (by omega)]
  rw [md_p103]
  rw [upa_u, upa_e]
  refine R_aload_n (q := 44) rfl rfl rfl ?_
  refine R_getf (q := 47) rfl rfl rfl md_73 rfl ?_
  refine R_iload_n (q := 48) rfl rfl rfl ?_
  refine R_if_eq (q := 51) (t := 62) rfl rfl rfl (fun h48 => ?_) (fun h48 => absurd rfl h48)
  refine R_bipush (q := 64) (v := nI 17) rfl rfl (by decide) ?_
  refine R_iload_n (q := 65) rfl rfl rfl ?_
  refine R_iconst (q := 66) (v := nI 1) rfl rfl (by decide) ?_
  refine R_iadd (q := 67) rfl rfl ?_
  rw [nI_add]
  refine R_imul (q := 68) rfl rfl ?_
  rw [pk_mul]
  refine R_iload_n (q := 69) rfl rfl rfl ?_
  refine R_iadd (q := 70) rfl rfl ?_
  rw [nI_add]
  refine R_iconst (q := 71) (v := nI 1) rfl rfl (by decide) ?_
  refine R_bastore (q := 72) rfl rfl md_103 (by first | assumption | exact in_nI (by omega) (by decide)) (by first | exact Or.inl rfl | exact Or.inr rfl) ?_
  rw [cl_nI (by omega)]
  rw [md_p103]
  rw [upa_u, upa_e]
  refine R_return rfl rfl ?_
  exact ⟨rfl, rfl⟩
set_option maxRecDepth 8000 in
theorem m186 {s x y : Nat} {BL LF CT : Nat → Int32} {q : QS} {inn : Int32} (hc : CRl A sh) (hs6 : s < 6) (hx : 1 ≤ x ∧ x ≤ 15) (hy : 1 ≤ y ∧ y ≤ 15) (hk : crn (sh s) x y = true) (hinn : ∀ t, t < 16 → bt inn t = innr (sh s) true y t) (hC : CTR BL LF CT (hB q) (vB q) (pB q)) : mm_R S (d + 3) 186 0 (mm_en 186 [.ref 73, .int (nI s), .int (nI x), .int (nI y)]) [] (mdm M (upa (upa (upa A 101 BL) 102 LF) 103 CT) I) (fun v M' => v = none ∧ ∃ BL' CT', M' = (mdm M (upa (upa (upa A 101 BL') 102 LF) 103 CT') I) ∧ CTR BL' LF CT' (hB (qfrom q x y inn)) (vB (qfrom q x y inn)) (pB (qfrom q x y inn))) := by
  show mm_R S (d + 3) 186 0 [some (.ref 73), some (.int (nI s)), some (.int (nI x)), some (.int (nI y)), none, none, none, none, none] [] (mdm M (upa (upa (upa A 101 BL) 102 LF) 103 CT) I) _
  have hC0 : ∀ z, CTR BL LF CT (HI (hB q) y z z) (vB q) (PI (pB q) y z z) := fun z => CTR_cg hC (fun y' x' _ _ => by unfold HI; rw [decide_eq_false (by omega), Bool.or_false]) (fun _ _ _ _ => rfl) (fun y' x' _ _ => by unfold PI; rw [decide_eq_false (by omega), Bool.or_false])
  have hR : bt inn x = true → ∀ (j p : Nat) (BL CT : Nat → Int32) (t7 t8 : Option Value), p + j = 16 → x ≤ p → CTR BL LF CT (HI (hB q) y x p) (vB q) (PI (pB q) y x p) → (x < p ∨ j = 16 - x) → (∀ z, z = rt (fun t => innr (sh s) true y t) (fun t => pB q y t) j p → x < z → z ≤ 16 → z = goR (bt inn) (bt (q.2.2.1 y)) (15 - x) (x + 1)) → mm_R S (d + 3) 186 24 [some (.ref 73), some (.int (nI s)), some (.int (nI x)), some (.int (nI y)), some (.int (nI 1)), some (.int (nI p)), some (.int (nI 1)), t7, t8] [] (mdm M (upa (upa (upa A 101 BL) 102 LF) 103 CT) I) (fun v M' => v = none ∧ ∃ BL' CT', M' = (mdm M (upa (upa (upa A 101 BL') 102 LF) 103 CT') I) ∧ CTR BL' LF CT' (hB (qfrom q x y inn)) (vB (qfrom q x y inn)) (pB (qfrom q x y inn))) := by
    intro hin j
    have hex : ∀ (t : Nat) (BL CT : Nat → Int32) (t7 t8 : Option Value), x < t → t ≤ 16 → CTR BL LF CT (HI (hB q) y x t) (vB q) (PI (pB q) y x t) → t = goR (bt inn) (bt (q.2.2.1 y)) (15 - x) (x + 1) → mm_R S (d + 3) 186 24 [some (.ref 73), some (.int (nI s)), some (.int (nI x)), some (.int (nI y)), some (.int (nI 1)), some (.int (nI t)), some (.int (nI 0)), t7, t8] [] (mdm M (upa (upa (upa A 101 BL) 102 LF) 103 CT) I) (fun v M' => v = none ∧ ∃ BL' CT', M' = (mdm M (upa (upa (upa A 101 BL') 102 LF) 103 CT') I) ∧ CTR BL' LF CT' (hB (qfrom q x y inn)) (vB (qfrom q x y inn)) (pB (qfrom q x y inn))) := by
      intro t BL CT t7 t8 h1 h2 h3 h4
      refine R_iload (q := 26) rfl rfl rfl ?_
      refine R_if_eq (q := 29) (t := 127) rfl rfl rfl (fun h26 => ?_) (fun h26 => absurd rfl h26)
      refine R_return rfl rfl ?_
      refine ⟨rfl, BL, CT, rfl, ?_⟩
      have hqf : qfrom q x y inn = qlev q y x t := by unfold qfrom; rw [if_pos hin, ← h4]
      rw [hqf]
      exact qlev_C h3 h1 h2
    induction j with
    | zero =>
      intro p BL CT t7 t8 hp hxp h3 hfx hz
      have hp6 : p = 16 := by omega
      subst hp6
      have hxp : x < 16 := by omega
      refine R_iload (q := 26) rfl rfl rfl ?_
      refine R_if_eq (q := 29) (t := 127) rfl rfl rfl (fun h26 => absurd h26 (by decide)) (fun h26 => ?_)
      refine R_iload (q := 31) rfl rfl rfl ?_
      refine R_if_le (q := 34) (t := 39) rfl rfl rfl (fun h31 => absurd h31 (by decide)) (fun h31 => ?_)
      refine R_iload (q := 36) rfl rfl rfl ?_
      refine R_goto (t := 43) rfl rfl ?_
      refine R_istore (q := 45) rfl rfl (Nat.le_of_ble_eq_true rfl) rfl ?_
      dsimp only [List.set]
      refine R_iload (q := 47) rfl rfl rfl ?_
      refine R_iconst (q := 48) (v := nI 0) rfl rfl (by decide) ?_
      refine R_bipush (q := 50) (v := nI 15) rfl rfl (by decide) ?_
      refine R_calls3 (q := 53) rfl rfl rfl rfl (Nat.le_of_ble_eq_true rfl) rfl ?_
      refine R_mono (m147) (fun v50 M50 hr50 => ?_)
      obtain ⟨rfl, hm50⟩ := hr50
      rw [hm50]
      dsimp only [Option.toList, List.cons_append, List.nil_append]
      refine R_if_eq (q := 56) (t := 72) rfl rfl rfl (fun h53 => ?_) (fun h53 => absurd (by decide) h53)
      refine R_iconst (q := 73) (v := nI 0) rfl rfl (by decide) ?_
      refine R_istore (q := 75) rfl rfl (Nat.le_of_ble_eq_true rfl) rfl ?_
      dsimp only [List.set]
      refine R_iload (q := 77) rfl rfl rfl ?_
      refine R_if_eq (q := 80) (t := 124) rfl rfl rfl (fun h77 => ?_) (fun h77 => absurd rfl h77)
      refine R_goto (t := 24) rfl rfl ?_
      exact hex 16 BL CT _ _ hxp (Nat.le_refl _) h3 (hz 16 rfl hxp (Nat.le_refl _))
    | succ j ih =>
      intro p BL CT t7 t8 hp hxp h3 hfx hz
      have hp5 : p ≤ 15 := by omega
      have rr1 : CRl (upa (upa (upa A 101 BL) 102 LF) 103 CT) sh := hc
      have hrt : rt (fun t => innr (sh s) true y t) (fun t => pB q y t) (j + 1) p = if innr (sh s) true y p = true then (if pB q y (p + 1) = true then p + 1 else rt (fun t => innr (sh s) true y t) (fun t => pB q y t) j (p + 1)) else p := rfl
      have hth : upa (upa (upa A 101 BL) 102 LF) 103 CT 103 (17 * y + p + 1) = zb (pB q y (p + 1)) := by
        rw [upa_e, show 17 * y + p + 1 = 17 * y + (p + 1) by omega, h3.2.2 y (p + 1) (by omega) (by omega)]
        unfold PI
        rw [decide_eq_false (by omega), Bool.or_false]
      have hnx : CTR (upd BL (16 * y + p) (nI 1)) LF (upd (upd CT (17 * y + p) (nI 1)) (17 * y + p + 1) (nI 1)) (HI (hB q) y x (p + 1)) (vB q) (PI (pB q) y x (p + 1)) := by
        refine CTR_L h3 (by omega) (by omega) (fun y' x' _ _ => ?_) (fun y' x' _ _ => ?_)
        · unfold HI; exact or_dec (by omega)
        · unfold PI; exact or_dec (by omega)
      refine R_iload (q := 26) rfl rfl rfl ?_
      refine R_if_eq (q := 29) (t := 127) rfl rfl rfl (fun h26 => absurd h26 (by decide)) (fun h26 => ?_)
      refine R_iload (q := 31) rfl rfl rfl ?_
      refine R_if_le (q := 34) (t := 39) rfl rfl rfl (fun h31 => absurd h31 (by decide)) (fun h31 => ?_)
      refine R_iload (q := 36) rfl rfl rfl ?_
      refine R_goto (t := 43) rfl rfl ?_
      refine R_istore (q := 45) rfl rfl (Nat.le_of_ble_eq_true rfl) rfl ?_
      dsimp only [List.set]
      refine R_iload (q := 47) rfl rfl rfl ?_
      refine R_iconst (q := 48) (v := nI 0) rfl rfl (by decide) ?_
      refine R_bipush (q := 50) (v := nI 15) rfl rfl (by decide) ?_
      refine R_calls3 (q := 53) rfl rfl rfl rfl (Nat.le_of_ble_eq_true rfl) rfl ?_
      refine R_mono (m147) (fun v50 M50 hr50 => ?_)
      obtain ⟨rfl, hm50⟩ := hr50
      rw [hm50]
      dsimp only [Option.toList, List.cons_append, List.nil_append]
      refine R_if_eq (q := 56) (t := 72) rfl rfl rfl (fun h53 => absurd (by rw [ik_0, ik_15, i_n _ (by omega)] at h53; exact of_decide_eq_false (zb_eq0.mp h53) (by omega)) (by decide : ¬ False)) (fun h53 => ?_)
      refine R_aload_n (q := 57) rfl rfl rfl ?_
      refine R_iload_n (q := 58) rfl rfl rfl ?_
      refine R_iload (q := 60) rfl rfl rfl ?_
      refine R_iload_n (q := 61) rfl rfl rfl ?_
      refine R_iconst (q := 62) (v := nI 1) rfl rfl (by decide) ?_
      refine R_callv4 (q := 65) rfl rfl rfl rfl md_73 (Nat.le_of_ble_eq_true rfl) rfl ?_
      refine R_mono (m174 (lv := true) (x := p) (y := y) rr1 hs6 (by omega) (by omega)) (fun v62 M62 hr62 => ?_)
      obtain ⟨rfl, hm62⟩ := hr62
      rw [hm62]
      dsimp only [Option.toList, List.cons_append, List.nil_append]
      refine R_if_eq (q := 68) (t := 72) rfl rfl rfl (fun h65 => ?_) (fun h65 => ?_)
      · refine R_iconst (q := 73) (v := nI 0) rfl rfl (by decide) ?_
        first
          | (have hq9 := zb_ne0.mp h65
             have hin2 : innr (sh s) true y p = true := zb_ne0.mp h65
             have hrt3 : rt (fun t => innr (sh s) true y t) (fun t => pB q y t) (j + 1) p = if pB q y (p + 1) = true then p + 1 else rt (fun t => innr (sh s) true y t) (fun t => pB q y t) j (p + 1) := by rw [hrt, if_pos hin2]
             refine R_istore (q := 75) rfl rfl (Nat.le_of_ble_eq_true rfl) rfl ?_
             dsimp only [List.set]
             refine R_iload (q := 77) rfl rfl rfl ?_
             refine R_if_eq (q := 80) (t := 124) rfl rfl rfl (fun h77 => absurd h77 (by decide)) (fun h77 => ?_)
             refine R_aload_n (q := 81) rfl rfl rfl ?_
             refine R_getf (q := 84) rfl rfl rfl md_73 rfl ?_
             refine R_bipush (q := 86) (v := nI 17) rfl rfl (by decide) ?_
             refine R_iload_n (q := 87) rfl rfl rfl ?_
             refine R_imul (q := 88) rfl rfl ?_
             rw [pk_mul]
             refine R_iload (q := 90) rfl rfl rfl ?_
             refine R_iadd (q := 91) rfl rfl ?_
             rw [nI_add]
             refine R_iload (q := 93) rfl rfl rfl ?_
             refine R_iadd (q := 94) rfl rfl ?_
             rw [nI_add]
             refine R_baload (q := 95) rfl rfl md_103 (by decide) (by first | assumption | exact in_nI (by omega) (by decide)) ?_
             rw [cl_nI (by omega)]
             rw [hth]
             refine R_istore (q := 97) rfl rfl (Nat.le_of_ble_eq_true rfl) rfl ?_
             dsimp only [List.set]
             refine R_aload_n (q := 98) rfl rfl rfl ?_
             refine R_iload (q := 100) rfl rfl rfl ?_
             refine R_iload_n (q := 101) rfl rfl rfl ?_
             refine R_iconst (q := 102) (v := nI 1) rfl rfl (by decide) ?_
             refine R_callv3 (q := 105) rfl rfl rfl rfl md_73 (Nat.le_of_ble_eq_true rfl) rfl ?_
             refine R_mono (m184_L (x := p) (y := y) (by omega) (by omega)) (fun v102 M102 hr102 => ?_)
             obtain ⟨rfl, hm102⟩ := hr102
             rw [hm102]
             dsimp only [Option.toList, List.cons_append, List.nil_append]
             refine R_iload (q := 107) rfl rfl rfl ?_
             refine R_iload (q := 109) rfl rfl rfl ?_
             refine R_iadd (q := 110) rfl rfl ?_
             rw [nI_add]
             refine R_istore (q := 112) rfl rfl (Nat.le_of_ble_eq_true rfl) rfl ?_
             dsimp only [List.set]
             refine R_iload (q := 114) rfl rfl rfl ?_
             refine R_if_ne (q := 117) (t := 121) rfl rfl rfl (fun h114 => ?_) (fun h114 => ?_)
             · refine R_iconst (q := 122) (v := nI 0) rfl rfl (by decide) ?_
               first
                 | (have hpb := zb_ne0.mp h114
                    refine R_istore (q := 124) rfl rfl (Nat.le_of_ble_eq_true rfl) rfl ?_
                    dsimp only [List.set]
                    refine R_goto (t := 24) rfl rfl ?_
                    exact hex (p + 1) _ _ _ _ (by omega) (by omega) hnx (hz (p + 1) (by rw [hrt3, if_pos hpb]) (by omega) (by omega)))
                 | (have hpb := zb_eq0.mp h114
                    refine R_istore (q := 124) rfl rfl (Nat.le_of_ble_eq_true rfl) rfl ?_
                    dsimp only [List.set]
                    refine R_goto (t := 24) rfl rfl ?_
                    exact ih (p + 1) _ _ _ _ (by omega) (by omega) hnx (Or.inl (by omega)) (fun z w1 => hz z (by rw [hrt3, if_neg (by rw [hpb]; decide)]; exact w1)))
             · refine R_iconst (q := 118) (v := nI 1) rfl rfl (by decide) ?_
               refine R_goto (t := 122) rfl rfl ?_
               first
                 | (have hpb := zb_ne0.mp h114
                    refine R_istore (q := 124) rfl rfl (Nat.le_of_ble_eq_true rfl) rfl ?_
                    dsimp only [List.set]
                    refine R_goto (t := 24) rfl rfl ?_
                    exact hex (p + 1) _ _ _ _ (by omega) (by omega) hnx (hz (p + 1) (by rw [hrt3, if_pos hpb]) (by omega) (by omega)))
                 | (have hpb := zb_eq0.mp h114
                    refine R_istore (q := 124) rfl rfl (Nat.le_of_ble_eq_true rfl) rfl ?_
                    dsimp only [List.set]
                    refine R_goto (t := 24) rfl rfl ?_
                    exact ih (p + 1) _ _ _ _ (by omega) (by omega) hnx (Or.inl (by omega)) (fun z w1 => hz z (by rw [hrt3, if_neg (by rw [hpb]; decide)]; exact w1))))
          | (have hq9 := zb_eq0.mp h65
             have hin2 : ¬ innr (sh s) true y p = true := fun w => by
               have w2 := zb_eq0.mp h65
               have w : (hZ (sh s) p y && hZ (sh s) p (y - 1)) = true := w
               have w2 : (hZ (sh s) p y && hZ (sh s) p (y - 1)) = false := w2
               rw [w] at w2
               exact absurd w2 (by decide)
             have hxp2 : x < p := by
               rcases hfx with w | w
               · exact w
               · have : p = x := by omega
                 rw [this, ← hinn x (by omega)] at hin2
                 exact absurd hin hin2
             have hrt2 : p = rt (fun t => innr (sh s) true y t) (fun t => pB q y t) (j + 1) p := by rw [hrt, if_neg hin2]
             refine R_istore (q := 75) rfl rfl (Nat.le_of_ble_eq_true rfl) rfl ?_
             dsimp only [List.set]
             refine R_iload (q := 77) rfl rfl rfl ?_
             refine R_if_eq (q := 80) (t := 124) rfl rfl rfl (fun h77 => ?_) (fun h77 => absurd rfl h77)
             refine R_goto (t := 24) rfl rfl ?_
             exact hex p BL CT _ _ hxp2 (by omega) h3 (hz p hrt2 hxp2 (by omega)))
      · refine R_iconst (q := 69) (v := nI 1) rfl rfl (by decide) ?_
        refine R_goto (t := 73) rfl rfl ?_
        first
          | (have hq9 := zb_ne0.mp h65
             have hin2 : innr (sh s) true y p = true := zb_ne0.mp h65
             have hrt3 : rt (fun t => innr (sh s) true y t) (fun t => pB q y t) (j + 1) p = if pB q y (p + 1) = true then p + 1 else rt (fun t => innr (sh s) true y t) (fun t => pB q y t) j (p + 1) := by rw [hrt, if_pos hin2]
             refine R_istore (q := 75) rfl rfl (Nat.le_of_ble_eq_true rfl) rfl ?_
             dsimp only [List.set]
             refine R_iload (q := 77) rfl rfl rfl ?_
             refine R_if_eq (q := 80) (t := 124) rfl rfl rfl (fun h77 => absurd h77 (by decide)) (fun h77 => ?_)
             refine R_aload_n (q := 81) rfl rfl rfl ?_
             refine R_getf (q := 84) rfl rfl rfl md_73 rfl ?_
             refine R_bipush (q := 86) (v := nI 17) rfl rfl (by decide) ?_
             refine R_iload_n (q := 87) rfl rfl rfl ?_
             refine R_imul (q := 88) rfl rfl ?_
             rw [pk_mul]
             refine R_iload (q := 90) rfl rfl rfl ?_
             refine R_iadd (q := 91) rfl rfl ?_
             rw [nI_add]
             refine R_iload (q := 93) rfl rfl rfl ?_
             refine R_iadd (q := 94) rfl rfl ?_
             rw [nI_add]
             refine R_baload (q := 95) rfl rfl md_103 (by decide) (by first | assumption | exact in_nI (by omega) (by decide)) ?_
             rw [cl_nI (by omega)]
             rw [hth]
             refine R_istore (q := 97) rfl rfl (Nat.le_of_ble_eq_true rfl) rfl ?_
             dsimp only [List.set]
             refine R_aload_n (q := 98) rfl rfl rfl ?_
             refine R_iload (q := 100) rfl rfl rfl ?_
             refine R_iload_n (q := 101) rfl rfl rfl ?_
             refine R_iconst (q := 102) (v := nI 1) rfl rfl (by decide) ?_
             refine R_callv3 (q := 105) rfl rfl rfl rfl md_73 (Nat.le_of_ble_eq_true rfl) rfl ?_
             refine R_mono (m184_L (x := p) (y := y) (by omega) (by omega)) (fun v102 M102 hr102 => ?_)
             obtain ⟨rfl, hm102⟩ := hr102
             rw [hm102]
             dsimp only [Option.toList, List.cons_append, List.nil_append]
             refine R_iload (q := 107) rfl rfl rfl ?_
             refine R_iload (q := 109) rfl rfl rfl ?_
             refine R_iadd (q := 110) rfl rfl ?_
             rw [nI_add]
             refine R_istore (q := 112) rfl rfl (Nat.le_of_ble_eq_true rfl) rfl ?_
             dsimp only [List.set]
             refine R_iload (q := 114) rfl rfl rfl ?_
             refine R_if_ne (q := 117) (t := 121) rfl rfl rfl (fun h114 => ?_) (fun h114 => ?_)
             · refine R_iconst (q := 122) (v := nI 0) rfl rfl (by decide) ?_
               first
                 | (have hpb := zb_ne0.mp h114
                    refine R_istore (q := 124) rfl rfl (Nat.le_of_ble_eq_true rfl) rfl ?_
                    dsimp only [List.set]
                    refine R_goto (t := 24) rfl rfl ?_
                    exact hex (p + 1) _ _ _ _ (by omega) (by omega) hnx (hz (p + 1) (by rw [hrt3, if_pos hpb]) (by omega) (by omega)))
                 | (have hpb := zb_eq0.mp h114
                    refine R_istore (q := 124) rfl rfl (Nat.le_of_ble_eq_true rfl) rfl ?_
                    dsimp only [List.set]
                    refine R_goto (t := 24) rfl rfl ?_
                    exact ih (p + 1) _ _ _ _ (by omega) (by omega) hnx (Or.inl (by omega)) (fun z w1 => hz z (by rw [hrt3, if_neg (by rw [hpb]; decide)]; exact w1)))
             · refine R_iconst (q := 118) (v := nI 1) rfl rfl (by decide) ?_
               refine R_goto (t := 122) rfl rfl ?_
               first
                 | (have hpb := zb_ne0.mp h114
                    refine R_istore (q := 124) rfl rfl (Nat.le_of_ble_eq_true rfl) rfl ?_
                    dsimp only [List.set]
                    refine R_goto (t := 24) rfl rfl ?_
                    exact hex (p + 1) _ _ _ _ (by omega) (by omega) hnx (hz (p + 1) (by rw [hrt3, if_pos hpb]) (by omega) (by omega)))
                 | (have hpb := zb_eq0.mp h114
                    refine R_istore (q := 124) rfl rfl (Nat.le_of_ble_eq_true rfl) rfl ?_
                    dsimp only [List.set]
                    refine R_goto (t := 24) rfl rfl ?_
                    exact ih (p + 1) _ _ _ _ (by omega) (by omega) hnx (Or.inl (by omega)) (fun z w1 => hz z (by rw [hrt3, if_neg (by rw [hpb]; decide)]; exact w1))))
          | (have hq9 := zb_eq0.mp h65
             have hin2 : ¬ innr (sh s) true y p = true := fun w => by
               have w2 := zb_eq0.mp h65
               have w : (hZ (sh s) p y && hZ (sh s) p (y - 1)) = true := w
               have w2 : (hZ (sh s) p y && hZ (sh s) p (y - 1)) = false := w2
               rw [w] at w2
               exact absurd w2 (by decide)
             have hxp2 : x < p := by
               rcases hfx with w | w
               · exact w
               · have : p = x := by omega
                 rw [this, ← hinn x (by omega)] at hin2
                 exact absurd hin hin2
             have hrt2 : p = rt (fun t => innr (sh s) true y t) (fun t => pB q y t) (j + 1) p := by rw [hrt, if_neg hin2]
             refine R_istore (q := 75) rfl rfl (Nat.le_of_ble_eq_true rfl) rfl ?_
             dsimp only [List.set]
             refine R_iload (q := 77) rfl rfl rfl ?_
             refine R_if_eq (q := 80) (t := 124) rfl rfl rfl (fun h77 => ?_) (fun h77 => absurd rfl h77)
             refine R_goto (t := 24) rfl rfl ?_
             exact hex p BL CT _ _ hxp2 (by omega) h3 (hz p hrt2 hxp2 (by omega)))
  have hL : bt inn x = false → ∀ (p : Nat) (BL CT : Nat → Int32) (t7 t8 : Option Value), p ≤ x → CTR BL LF CT (HI (hB q) y p x) (vB q) (PI (pB q) y p x) → (p < x ∨ p = x) → (∀ z, z = lt' (fun t => innr (sh s) true y t) (fun t => pB q y t) p → z < x → z = goL (bt inn) (bt (q.2.2.1 y)) (x - 1)) → mm_R S (d + 3) 186 24 [some (.ref 73), some (.int (nI s)), some (.int (nI x)), some (.int (nI y)), some (.int (-1)), some (.int (nI p)), some (.int (nI 1)), t7, t8] [] (mdm M (upa (upa (upa A 101 BL) 102 LF) 103 CT) I) (fun v M' => v = none ∧ ∃ BL' CT', M' = (mdm M (upa (upa (upa A 101 BL') 102 LF) 103 CT') I) ∧ CTR BL' LF CT' (hB (qfrom q x y inn)) (vB (qfrom q x y inn)) (pB (qfrom q x y inn))) := by
    intro hin p
    have hex : ∀ (t : Nat) (BL CT : Nat → Int32) (t7 t8 : Option Value), t < x → CTR BL LF CT (HI (hB q) y t x) (vB q) (PI (pB q) y t x) → t = goL (bt inn) (bt (q.2.2.1 y)) (x - 1) → mm_R S (d + 3) 186 24 [some (.ref 73), some (.int (nI s)), some (.int (nI x)), some (.int (nI y)), some (.int (-1)), some (.int (nI t)), some (.int (nI 0)), t7, t8] [] (mdm M (upa (upa (upa A 101 BL) 102 LF) 103 CT) I) (fun v M' => v = none ∧ ∃ BL' CT', M' = (mdm M (upa (upa (upa A 101 BL') 102 LF) 103 CT') I) ∧ CTR BL' LF CT' (hB (qfrom q x y inn)) (vB (qfrom q x y inn)) (pB (qfrom q x y inn))) := by
      intro t BL CT t7 t8 h1 h3 h4
      refine R_iload (q := 26) rfl rfl rfl ?_
      refine R_if_eq (q := 29) (t := 127) rfl rfl rfl (fun h26 => ?_) (fun h26 => absurd rfl h26)
      refine R_return rfl rfl ?_
      refine ⟨rfl, BL, CT, rfl, ?_⟩
      have hqf : qfrom q x y inn = qlev q y t x := by unfold qfrom; rw [hin, if_neg (by decide), ← h4]
      rw [hqf]
      exact qlev_C h3 h1 (by omega)
    induction p with
    | zero =>
      intro BL CT t7 t8 hxp h3 hfx hz
      have h0x : 0 < x := by omega
      refine R_iload (q := 26) rfl rfl rfl ?_
      refine R_if_eq (q := 29) (t := 127) rfl rfl rfl (fun h26 => absurd h26 (by decide)) (fun h26 => ?_)
      refine R_iload (q := 31) rfl rfl rfl ?_
      refine R_if_le (q := 34) (t := 39) rfl rfl rfl (fun h31 => ?_) (fun h31 => absurd (by decide) h31)
      refine R_iload (q := 41) rfl rfl rfl ?_
      refine R_iconst (q := 42) (v := nI 1) rfl rfl (by decide) ?_
      refine R_isub (q := 43) rfl rfl ?_
      refine R_istore (q := 45) rfl rfl (Nat.le_of_ble_eq_true rfl) rfl ?_
      dsimp only [List.set]
      refine R_iload (q := 47) rfl rfl rfl ?_
      refine R_iconst (q := 48) (v := nI 0) rfl rfl (by decide) ?_
      refine R_bipush (q := 50) (v := nI 15) rfl rfl (by decide) ?_
      refine R_calls3 (q := 53) rfl rfl rfl rfl (Nat.le_of_ble_eq_true rfl) rfl ?_
      refine R_mono (m147) (fun v50 M50 hr50 => ?_)
      obtain ⟨rfl, hm50⟩ := hr50
      rw [hm50]
      dsimp only [Option.toList, List.cons_append, List.nil_append]
      refine R_if_eq (q := 56) (t := 72) rfl rfl rfl (fun h53 => ?_) (fun h53 => absurd (by decide) h53)
      refine R_iconst (q := 73) (v := nI 0) rfl rfl (by decide) ?_
      refine R_istore (q := 75) rfl rfl (Nat.le_of_ble_eq_true rfl) rfl ?_
      dsimp only [List.set]
      refine R_iload (q := 77) rfl rfl rfl ?_
      refine R_if_eq (q := 80) (t := 124) rfl rfl rfl (fun h77 => ?_) (fun h77 => absurd rfl h77)
      refine R_goto (t := 24) rfl rfl ?_
      exact hex 0 BL CT _ _ h0x h3 (hz 0 rfl h0x)
    | succ p ih =>
      intro BL CT t7 t8 hxp h3 hfx hz
      have rr1 : CRl (upa (upa (upa A 101 BL) 102 LF) 103 CT) sh := hc
      have hlt : lt' (fun t => innr (sh s) true y t) (fun t => pB q y t) (p + 1) = if innr (sh s) true y p = true then (if pB q y p = true then p else lt' (fun t => innr (sh s) true y t) (fun t => pB q y t) p) else p + 1 := rfl
      have esb : nI (p + 1) - nI 1 = nI p := by rw [n_sub (by omega) (by omega), Nat.add_sub_cancel]
      have ead : nI (17 * y + (p + 1)) + (-1) = nI (17 * y + p) := by rw [nI_mm _ (by omega) (by omega), show 17 * y + (p + 1) - 1 = 17 * y + p by omega]
      have eap : nI (p + 1) + (-1) = nI p := by rw [nI_mm _ (by omega) (by omega), Nat.add_sub_cancel]
      have hth : upa (upa (upa A 101 BL) 102 LF) 103 CT 103 (17 * y + p) = zb (pB q y p) := by
        rw [upa_e, h3.2.2 y p (by omega) (by omega)]
        unfold PI
        rw [decide_eq_false (by omega), Bool.or_false]
      have hnx : CTR (upd BL (16 * y + p) (nI 1)) LF (upd (upd CT (17 * y + p) (nI 1)) (17 * y + p + 1) (nI 1)) (HI (hB q) y p x) (vB q) (PI (pB q) y p x) := by
        refine CTR_L h3 (by omega) (by omega) (fun y' x' _ _ => ?_) (fun y' x' _ _ => ?_)
        · unfold HI; exact or_dec (by omega)
        · unfold PI; exact or_dec (by omega)
      refine R_iload (q := 26) rfl rfl rfl ?_
      refine R_if_eq (q := 29) (t := 127) rfl rfl rfl (fun h26 => absurd h26 (by decide)) (fun h26 => ?_)
      refine R_iload (q := 31) rfl rfl rfl ?_
      refine R_if_le (q := 34) (t := 39) rfl rfl rfl (fun h31 => ?_) (fun h31 => absurd (by decide) h31)
      refine R_iload (q := 41) rfl rfl rfl ?_
      refine R_iconst (q := 42) (v := nI 1) rfl rfl (by decide) ?_
      refine R_isub (q := 43) rfl rfl ?_
      rw [esb]
      refine R_istore (q := 45) rfl rfl (Nat.le_of_ble_eq_true rfl) rfl ?_
      dsimp only [List.set]
      refine R_iload (q := 47) rfl rfl rfl ?_
      refine R_iconst (q := 48) (v := nI 0) rfl rfl (by decide) ?_
      refine R_bipush (q := 50) (v := nI 15) rfl rfl (by decide) ?_
      refine R_calls3 (q := 53) rfl rfl rfl rfl (Nat.le_of_ble_eq_true rfl) rfl ?_
      refine R_mono (m147) (fun v50 M50 hr50 => ?_)
      obtain ⟨rfl, hm50⟩ := hr50
      rw [hm50]
      dsimp only [Option.toList, List.cons_append, List.nil_append]
      refine R_if_eq (q := 56) (t := 72) rfl rfl rfl (fun h53 => absurd (by rw [ik_0, ik_15, i_n _ (by omega)] at h53; exact of_decide_eq_false (zb_eq0.mp h53) (by omega)) (by decide : ¬ False)) (fun h53 => ?_)
      refine R_aload_n (q := 57) rfl rfl rfl ?_
      refine R_iload_n (q := 58) rfl rfl rfl ?_
      refine R_iload (q := 60) rfl rfl rfl ?_
      refine R_iload_n (q := 61) rfl rfl rfl ?_
      refine R_iconst (q := 62) (v := nI 1) rfl rfl (by decide) ?_
      refine R_callv4 (q := 65) rfl rfl rfl rfl md_73 (Nat.le_of_ble_eq_true rfl) rfl ?_
      refine R_mono (m174 (lv := true) (x := p) (y := y) rr1 hs6 (by omega) (by omega)) (fun v62 M62 hr62 => ?_)
      obtain ⟨rfl, hm62⟩ := hr62
      rw [hm62]
      dsimp only [Option.toList, List.cons_append, List.nil_append]
      refine R_if_eq (q := 68) (t := 72) rfl rfl rfl (fun h65 => ?_) (fun h65 => ?_)
      · refine R_iconst (q := 73) (v := nI 0) rfl rfl (by decide) ?_
        first
          | (have hq9 := zb_ne0.mp h65
             have hin2 : innr (sh s) true y p = true := zb_ne0.mp h65
             have hrt3 : lt' (fun t => innr (sh s) true y t) (fun t => pB q y t) (p + 1) = if pB q y p = true then p else lt' (fun t => innr (sh s) true y t) (fun t => pB q y t) p := by rw [hlt, if_pos hin2]
             refine R_istore (q := 75) rfl rfl (Nat.le_of_ble_eq_true rfl) rfl ?_
             dsimp only [List.set]
             refine R_iload (q := 77) rfl rfl rfl ?_
             refine R_if_eq (q := 80) (t := 124) rfl rfl rfl (fun h77 => absurd h77 (by decide)) (fun h77 => ?_)
             refine R_aload_n (q := 81) rfl rfl rfl ?_
             refine R_getf (q := 84) rfl rfl rfl md_73 rfl ?_
             refine R_bipush (q := 86) (v := nI 17) rfl rfl (by decide) ?_
             refine R_iload_n (q := 87) rfl rfl rfl ?_
             refine R_imul (q := 88) rfl rfl ?_
             rw [pk_mul]
             refine R_iload (q := 90) rfl rfl rfl ?_
             refine R_iadd (q := 91) rfl rfl ?_
             rw [nI_add]
             refine R_iload (q := 93) rfl rfl rfl ?_
             refine R_iadd (q := 94) rfl rfl ?_
             rw [ead]
             refine R_baload (q := 95) rfl rfl md_103 (by decide) (by first | assumption | exact in_nI (by omega) (by decide)) ?_
             rw [cl_nI (by omega)]
             rw [hth]
             refine R_istore (q := 97) rfl rfl (Nat.le_of_ble_eq_true rfl) rfl ?_
             dsimp only [List.set]
             refine R_aload_n (q := 98) rfl rfl rfl ?_
             refine R_iload (q := 100) rfl rfl rfl ?_
             refine R_iload_n (q := 101) rfl rfl rfl ?_
             refine R_iconst (q := 102) (v := nI 1) rfl rfl (by decide) ?_
             refine R_callv3 (q := 105) rfl rfl rfl rfl md_73 (Nat.le_of_ble_eq_true rfl) rfl ?_
             refine R_mono (m184_L (x := p) (y := y) (by omega) (by omega)) (fun v102 M102 hr102 => ?_)
             obtain ⟨rfl, hm102⟩ := hr102
             rw [hm102]
             dsimp only [Option.toList, List.cons_append, List.nil_append]
             refine R_iload (q := 107) rfl rfl rfl ?_
             refine R_iload (q := 109) rfl rfl rfl ?_
             refine R_iadd (q := 110) rfl rfl ?_
             rw [eap]
             refine R_istore (q := 112) rfl rfl (Nat.le_of_ble_eq_true rfl) rfl ?_
             dsimp only [List.set]
             refine R_iload (q := 114) rfl rfl rfl ?_
             refine R_if_ne (q := 117) (t := 121) rfl rfl rfl (fun h114 => ?_) (fun h114 => ?_)
             · refine R_iconst (q := 122) (v := nI 0) rfl rfl (by decide) ?_
               first
                 | (have hpb := zb_ne0.mp h114
                    refine R_istore (q := 124) rfl rfl (Nat.le_of_ble_eq_true rfl) rfl ?_
                    dsimp only [List.set]
                    refine R_goto (t := 24) rfl rfl ?_
                    exact hex p _ _ _ _ (by omega) hnx (hz p (by rw [hrt3, if_pos hpb]) (by omega)))
                 | (have hpb := zb_eq0.mp h114
                    refine R_istore (q := 124) rfl rfl (Nat.le_of_ble_eq_true rfl) rfl ?_
                    dsimp only [List.set]
                    refine R_goto (t := 24) rfl rfl ?_
                    exact ih _ _ _ _ (by omega) hnx (by omega) (fun z w1 => hz z (by rw [hrt3, if_neg (by rw [hpb]; decide)]; exact w1)))
             · refine R_iconst (q := 118) (v := nI 1) rfl rfl (by decide) ?_
               refine R_goto (t := 122) rfl rfl ?_
               first
                 | (have hpb := zb_ne0.mp h114
                    refine R_istore (q := 124) rfl rfl (Nat.le_of_ble_eq_true rfl) rfl ?_
                    dsimp only [List.set]
                    refine R_goto (t := 24) rfl rfl ?_
                    exact hex p _ _ _ _ (by omega) hnx (hz p (by rw [hrt3, if_pos hpb]) (by omega)))
                 | (have hpb := zb_eq0.mp h114
                    refine R_istore (q := 124) rfl rfl (Nat.le_of_ble_eq_true rfl) rfl ?_
                    dsimp only [List.set]
                    refine R_goto (t := 24) rfl rfl ?_
                    exact ih _ _ _ _ (by omega) hnx (by omega) (fun z w1 => hz z (by rw [hrt3, if_neg (by rw [hpb]; decide)]; exact w1))))
          | (have hq9 := zb_eq0.mp h65
             have hin2 : ¬ innr (sh s) true y p = true := fun w => by
               have w2 := zb_eq0.mp h65
               have w : (hZ (sh s) p y && hZ (sh s) p (y - 1)) = true := w
               have w2 : (hZ (sh s) p y && hZ (sh s) p (y - 1)) = false := w2
               rw [w] at w2
               exact absurd w2 (by decide)
             have hxp2 : p + 1 < x := by
               rcases hfx with w | w
               · exact w
               · exfalso
                 have e1 : x - 1 = p := by omega
                 have hk2 := hk
                 rw [crn_n hx hy, e1] at hk2
                 rw [hinn x (by omega), inL_n (by omega) hy] at hin
                 rw [inL_n (by omega) hy] at hin2
                 revert hk2 hin hin2
                 generalize bt (sh s y) x = a
                 generalize bt (sh s (y - 1)) x = b
                 generalize bt (sh s y) p = c
                 generalize bt (sh s (y - 1)) p = e
                 cases a <;> cases b <;> cases c <;> cases e <;> decide
             have hrt2 : p + 1 = lt' (fun t => innr (sh s) true y t) (fun t => pB q y t) (p + 1) := by rw [hlt, if_neg hin2]
             refine R_istore (q := 75) rfl rfl (Nat.le_of_ble_eq_true rfl) rfl ?_
             dsimp only [List.set]
             refine R_iload (q := 77) rfl rfl rfl ?_
             refine R_if_eq (q := 80) (t := 124) rfl rfl rfl (fun h77 => ?_) (fun h77 => absurd rfl h77)
             refine R_goto (t := 24) rfl rfl ?_
             exact hex (p + 1) BL CT _ _ hxp2 h3 (hz (p + 1) hrt2 hxp2))
      · refine R_iconst (q := 69) (v := nI 1) rfl rfl (by decide) ?_
        refine R_goto (t := 73) rfl rfl ?_
        first
          | (have hq9 := zb_ne0.mp h65
             have hin2 : innr (sh s) true y p = true := zb_ne0.mp h65
             have hrt3 : lt' (fun t => innr (sh s) true y t) (fun t => pB q y t) (p + 1) = if pB q y p = true then p else lt' (fun t => innr (sh s) true y t) (fun t => pB q y t) p := by rw [hlt, if_pos hin2]
             refine R_istore (q := 75) rfl rfl (Nat.le_of_ble_eq_true rfl) rfl ?_
             dsimp only [List.set]
             refine R_iload (q := 77) rfl rfl rfl ?_
             refine R_if_eq (q := 80) (t := 124) rfl rfl rfl (fun h77 => absurd h77 (by decide)) (fun h77 => ?_)
             refine R_aload_n (q := 81) rfl rfl rfl ?_
             refine R_getf (q := 84) rfl rfl rfl md_73 rfl ?_
             refine R_bipush (q := 86) (v := nI 17) rfl rfl (by decide) ?_
             refine R_iload_n (q := 87) rfl rfl rfl ?_
             refine R_imul (q := 88) rfl rfl ?_
             rw [pk_mul]
             refine R_iload (q := 90) rfl rfl rfl ?_
             refine R_iadd (q := 91) rfl rfl ?_
             rw [nI_add]
             refine R_iload (q := 93) rfl rfl rfl ?_
             refine R_iadd (q := 94) rfl rfl ?_
             rw [ead]
             refine R_baload (q := 95) rfl rfl md_103 (by decide) (by first | assumption | exact in_nI (by omega) (by decide)) ?_
             rw [cl_nI (by omega)]
             rw [hth]
             refine R_istore (q := 97) rfl rfl (Nat.le_of_ble_eq_true rfl) rfl ?_
             dsimp only [List.set]
             refine R_aload_n (q := 98) rfl rfl rfl ?_
             refine R_iload (q := 100) rfl rfl rfl ?_
             refine R_iload_n (q := 101) rfl rfl rfl ?_
             refine R_iconst (q := 102) (v := nI 1) rfl rfl (by decide) ?_
             refine R_callv3 (q := 105) rfl rfl rfl rfl md_73 (Nat.le_of_ble_eq_true rfl) rfl ?_
             refine R_mono (m184_L (x := p) (y := y) (by omega) (by omega)) (fun v102 M102 hr102 => ?_)
             obtain ⟨rfl, hm102⟩ := hr102
             rw [hm102]
             dsimp only [Option.toList, List.cons_append, List.nil_append]
             refine R_iload (q := 107) rfl rfl rfl ?_
             refine R_iload (q := 109) rfl rfl rfl ?_
             refine R_iadd (q := 110) rfl rfl ?_
             rw [eap]
             refine R_istore (q := 112) rfl rfl (Nat.le_of_ble_eq_true rfl) rfl ?_
             dsimp only [List.set]
             refine R_iload (q := 114) rfl rfl rfl ?_
             refine R_if_ne (q := 117) (t := 121) rfl rfl rfl (fun h114 => ?_) (fun h114 => ?_)
             · refine R_iconst (q := 122) (v := nI 0) rfl rfl (by decide) ?_
               first
                 | (have hpb := zb_ne0.mp h114
                    refine R_istore (q := 124) rfl rfl (Nat.le_of_ble_eq_true rfl) rfl ?_
                    dsimp only [List.set]
                    refine R_goto (t := 24) rfl rfl ?_
                    exact hex p _ _ _ _ (by omega) hnx (hz p (by rw [hrt3, if_pos hpb]) (by omega)))
                 | (have hpb := zb_eq0.mp h114
                    refine R_istore (q := 124) rfl rfl (Nat.le_of_ble_eq_true rfl) rfl ?_
                    dsimp only [List.set]
                    refine R_goto (t := 24) rfl rfl ?_
                    exact ih _ _ _ _ (by omega) hnx (by omega) (fun z w1 => hz z (by rw [hrt3, if_neg (by rw [hpb]; decide)]; exact w1)))
             · refine R_iconst (q := 118) (v := nI 1) rfl rfl (by decide) ?_
               refine R_goto (t := 122) rfl rfl ?_
               first
                 | (have hpb := zb_ne0.mp h114
                    refine R_istore (q := 124) rfl rfl (Nat.le_of_ble_eq_true rfl) rfl ?_
                    dsimp only [List.set]
                    refine R_goto (t := 24) rfl rfl ?_
                    exact hex p _ _ _ _ (by omega) hnx (hz p (by rw [hrt3, if_pos hpb]) (by omega)))
                 | (have hpb := zb_eq0.mp h114
                    refine R_istore (q := 124) rfl rfl (Nat.le_of_ble_eq_true rfl) rfl ?_
                    dsimp only [List.set]
                    refine R_goto (t := 24) rfl rfl ?_
                    exact ih _ _ _ _ (by omega) hnx (by omega) (fun z w1 => hz z (by rw [hrt3, if_neg (by rw [hpb]; decide)]; exact w1))))
          | (have hq9 := zb_eq0.mp h65
             have hin2 : ¬ innr (sh s) true y p = true := fun w => by
               have w2 := zb_eq0.mp h65
               have w : (hZ (sh s) p y && hZ (sh s) p (y - 1)) = true := w
               have w2 : (hZ (sh s) p y && hZ (sh s) p (y - 1)) = false := w2
               rw [w] at w2
               exact absurd w2 (by decide)
             have hxp2 : p + 1 < x := by
               rcases hfx with w | w
               · exact w
               · exfalso
                 have e1 : x - 1 = p := by omega
                 have hk2 := hk
                 rw [crn_n hx hy, e1] at hk2
                 rw [hinn x (by omega), inL_n (by omega) hy] at hin
                 rw [inL_n (by omega) hy] at hin2
                 revert hk2 hin hin2
                 generalize bt (sh s y) x = a
                 generalize bt (sh s (y - 1)) x = b
                 generalize bt (sh s y) p = c
                 generalize bt (sh s (y - 1)) p = e
                 cases a <;> cases b <;> cases c <;> cases e <;> decide
             have hrt2 : p + 1 = lt' (fun t => innr (sh s) true y t) (fun t => pB q y t) (p + 1) := by rw [hlt, if_neg hin2]
             refine R_istore (q := 75) rfl rfl (Nat.le_of_ble_eq_true rfl) rfl ?_
             dsimp only [List.set]
             refine R_iload (q := 77) rfl rfl rfl ?_
             refine R_if_eq (q := 80) (t := 124) rfl rfl rfl (fun h77 => ?_) (fun h77 => absurd rfl h77)
             refine R_goto (t := 24) rfl rfl ?_
             exact hex (p + 1) BL CT _ _ hxp2 h3 (hz (p + 1) hrt2 hxp2))
  have rr1 : CRl (upa (upa (upa A 101 BL) 102 LF) 103 CT) sh := hc
  refine R_aload_n (q := 1) rfl rfl rfl ?_
  refine R_iload_n (q := 2) rfl rfl rfl ?_
  refine R_iload_n (q := 3) rfl rfl rfl ?_
  refine R_iload_n (q := 4) rfl rfl rfl ?_
  refine R_iconst (q := 5) (v := nI 1) rfl rfl (by decide) ?_
  refine R_callv4 (q := 8) rfl rfl rfl rfl md_73 (Nat.le_of_ble_eq_true rfl) rfl ?_
  refine R_mono (m174 (lv := true) (x := x) (y := y) rr1 hs6 (by omega) (by omega)) (fun v5 M5 hr5 => ?_)
  obtain ⟨rfl, hm5⟩ := hr5
  rw [hm5]
  dsimp only [Option.toList, List.cons_append, List.nil_append]
  refine R_if_eq (q := 11) (t := 15) rfl rfl rfl (fun h8 => ?_) (fun h8 => ?_)
  · refine R_iconst (q := 16) (v := (-1)) rfl rfl (by decide) ?_
    refine R_istore (q := 18) rfl rfl (Nat.le_of_ble_eq_true rfl) rfl ?_
    dsimp only [List.set]
    refine R_iload_n (q := 19) rfl rfl rfl ?_
    refine R_istore (q := 21) rfl rfl (Nat.le_of_ble_eq_true rfl) rfl ?_
    dsimp only [List.set]
    refine R_iconst (q := 22) (v := nI 1) rfl rfl (by decide) ?_
    refine R_istore (q := 24) rfl rfl (Nat.le_of_ble_eq_true rfl) rfl ?_
    dsimp only [List.set]
    first
      | (have hi : innr (sh s) true y x = true := zb_ne0.mp h8
         rw [← hinn x (by omega)] at hi
         refine hR hi (16 - x) x BL CT _ _ (by omega) (Nat.le_refl _) (hC0 x) (Or.inr rfl) (fun z w1 w2 w3 => ?_)
         have hgg : ∀ t, t < 16 → bt inn t = (fun t => innr (sh s) true y t) t := hinn
         rw [w1, show 16 - x = (15 - x) + 1 by omega]
         show (if innr (sh s) true y x = true then (if pB q y (x + 1) = true then x + 1 else rt (fun t => innr (sh s) true y t) (fun t => pB q y t) (15 - x) (x + 1)) else x) = _
         rw [← hinn x (by omega), if_pos hi]
         have h9 := rt_go (g := fun t => innr (sh s) true y t) (c := fun t => pB q y t) (15 - x) x
         rw [h9]
         exact goR_cg (15 - x) (x + 1) (fun t t1 t2 => (hinn t (by omega)).symm) (fun t _ _ => rfl))
      | (have hi : innr (sh s) true y x = false := zb_eq0.mp h8
         rw [← hinn x (by omega)] at hi
         refine hL hi x BL CT _ _ (Nat.le_refl _) (hC0 x) (Or.inr rfl) (fun z w1 w2 => ?_)
         have hx1 : x = (x - 1) + 1 := by omega
         have h9 := lt_go (g := fun t => innr (sh s) true y t) (c := fun t => pB q y t) (x - 1)
         have hi1 : innr (sh s) true y (x - 1) = true := by
           have hk2 := hk
           rw [crn_n hx hy] at hk2
           rw [hinn x (by omega), inL_n (by omega) hy] at hi
           rw [inL_n (by omega) hy]
           revert hk2 hi
           generalize bt (sh s y) x = a
           generalize bt (sh s (y - 1)) x = b
           generalize bt (sh s y) (x - 1) = c
           generalize bt (sh s (y - 1)) (x - 1) = e
           cases a <;> cases b <;> cases c <;> cases e <;> decide
         rw [w1, hx1]
         show (if innr (sh s) true y (x - 1) = true then (if pB q y (x - 1) = true then x - 1 else lt' (fun t => innr (sh s) true y t) (fun t => pB q y t) (x - 1)) else x - 1 + 1) = _
         rw [if_pos hi1, h9, Nat.add_sub_cancel]
         exact goL_cg (x - 1) (fun t t1 => (hinn t (by omega)).symm) (fun t _ => rfl))
  · refine R_iconst (q := 12) (v := nI 1) rfl rfl (by decide) ?_
    refine R_goto (t := 16) rfl rfl ?_
    refine R_istore (q := 18) rfl rfl (Nat.le_of_ble_eq_true rfl) rfl ?_
    dsimp only [List.set]
    refine R_iload_n (q := 19) rfl rfl rfl ?_
    refine R_istore (q := 21) rfl rfl (Nat.le_of_ble_eq_true rfl) rfl ?_
    dsimp only [List.set]
    refine R_iconst (q := 22) (v := nI 1) rfl rfl (by decide) ?_
    refine R_istore (q := 24) rfl rfl (Nat.le_of_ble_eq_true rfl) rfl ?_
    dsimp only [List.set]
    first
      | (have hi : innr (sh s) true y x = true := zb_ne0.mp h8
         rw [← hinn x (by omega)] at hi
         refine hR hi (16 - x) x BL CT _ _ (by omega) (Nat.le_refl _) (hC0 x) (Or.inr rfl) (fun z w1 w2 w3 => ?_)
         have hgg : ∀ t, t < 16 → bt inn t = (fun t => innr (sh s) true y t) t := hinn
         rw [w1, show 16 - x = (15 - x) + 1 by omega]
         show (if innr (sh s) true y x = true then (if pB q y (x + 1) = true then x + 1 else rt (fun t => innr (sh s) true y t) (fun t => pB q y t) (15 - x) (x + 1)) else x) = _
         rw [← hinn x (by omega), if_pos hi]
         have h9 := rt_go (g := fun t => innr (sh s) true y t) (c := fun t => pB q y t) (15 - x) x
         rw [h9]
         exact goR_cg (15 - x) (x + 1) (fun t t1 t2 => (hinn t (by omega)).symm) (fun t _ _ => rfl))
      | (have hi : innr (sh s) true y x = false := zb_eq0.mp h8
         rw [← hinn x (by omega)] at hi
         refine hL hi x BL CT _ _ (Nat.le_refl _) (hC0 x) (Or.inr rfl) (fun z w1 w2 => ?_)
         have hx1 : x = (x - 1) + 1 := by omega
         have h9 := lt_go (g := fun t => innr (sh s) true y t) (c := fun t => pB q y t) (x - 1)
         have hi1 : innr (sh s) true y (x - 1) = true := by
           have hk2 := hk
           rw [crn_n hx hy] at hk2
           rw [hinn x (by omega), inL_n (by omega) hy] at hi
           rw [inL_n (by omega) hy]
           revert hk2 hi
           generalize bt (sh s y) x = a
           generalize bt (sh s (y - 1)) x = b
           generalize bt (sh s y) (x - 1) = c
           generalize bt (sh s (y - 1)) (x - 1) = e
           cases a <;> cases b <;> cases c <;> cases e <;> decide
         rw [w1, hx1]
         show (if innr (sh s) true y (x - 1) = true then (if pB q y (x - 1) = true then x - 1 else lt' (fun t => innr (sh s) true y t) (fun t => pB q y t) (x - 1)) else x - 1 + 1) = _
         rw [if_pos hi1, h9, Nat.add_sub_cancel]
         exact goL_cg (x - 1) (fun t t1 => (hinn t (by omega)).symm) (fun t _ => rfl))
end P69
