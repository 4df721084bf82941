/-! ===== Cutter: the object at 42, its rows at 43 .. 46, what is left at 47 (rows 48) ===== -/
abbrev QS : Type := (Nat → Int32) × (Nat → Int32) × (Nat → Int32) × (Nat → Int32)
def ctm (M : mm_M) (q : QS) : mm_M := (fun k => if k = 43 then some (ia 17 q.1) else if k = 44 then some (ia 17 q.2.1) else if k = 45 then some (ia 17 q.2.2.1) else if k = 46 then some (ia 17 q.2.2.2) else M.1 k, M.2)
def CUF (M : mm_M) : Prop := M.1 42 = some (.inr (2, [.ref 43, .ref 44, .ref 45, .ref 46, .ref 47]))
section P30a
variable {M : mm_M} {lc uc cp oc f : Nat → Int32} {q : QS}
theorem ct_43 : (ctm M (lc, uc, cp, oc)).1 43 = some (ia 17 lc) := rfl
theorem ct_44 : (ctm M (lc, uc, cp, oc)).1 44 = some (ia 17 uc) := rfl
theorem ct_45 : (ctm M (lc, uc, cp, oc)).1 45 = some (ia 17 cp) := rfl
theorem ct_46 : (ctm M (lc, uc, cp, oc)).1 46 = some (ia 17 oc) := rfl
theorem ct_p43 {z : Nat → Int32} : mm_put (ctm M (lc, uc, cp, oc)) 43 (ia 17 z) = ctm M (z, uc, cp, oc) := by
  unfold mm_put mm_u ctm
  congr 1
  funext k
  by_cases h : k = 43
  · subst h; rfl
  · simp [h]
theorem ct_p44 {z : Nat → Int32} : mm_put (ctm M (lc, uc, cp, oc)) 44 (ia 17 z) = ctm M (lc, z, cp, oc) := by
  unfold mm_put mm_u ctm
  congr 1
  funext k
  by_cases h : k = 44
  · subst h; rfl
  · simp [h]
theorem ct_p45 {z : Nat → Int32} : mm_put (ctm M (lc, uc, cp, oc)) 45 (ia 17 z) = ctm M (lc, uc, z, oc) := by
  unfold mm_put mm_u ctm
  congr 1
  funext k
  by_cases h : k = 45
  · subst h; rfl
  · simp [h]
theorem ct_p46 {z : Nat → Int32} : mm_put (ctm M (lc, uc, cp, oc)) 46 (ia 17 z) = ctm M (lc, uc, cp, z) := by
  unfold mm_put mm_u ctm
  congr 1
  funext k
  by_cases h : k = 46
  · subst h; rfl
  · simp [h]
theorem ct_off {k : Nat} (hk : k < 43 ∨ 46 < k) : (ctm M q).1 k = M.1 k := by
  unfold ctm
  dsimp only
  rw [if_neg (by omega), if_neg (by omega), if_neg (by omega), if_neg (by omega)]
theorem ct_42 (h : CUF M) : (ctm M q).1 42 = some (.inr (2, [.ref 43, .ref 44, .ref 45, .ref 46, .ref 47])) := by rw [ct_off (by omega)]; exact h
theorem ct_CA {a : Nat} (h : CA M a f) (ha : a + 1 < 43 ∨ 46 < a) : CA (ctm M q) a f := ⟨by rw [ct_off (by omega)]; exact h.1, by rw [ct_off (by omega)]; exact h.2⟩
theorem ct_CHF {co ln st en to pa : Nat → Int32} {n lv ch tr : Int32} (h : CHF M co ln st en to pa n lv ch tr) : CHF (ctm M q) co ln st en to pa n lv ch tr := by
  obtain ⟨h1, h2, h3, h4, h5, h6, h7⟩ := h
  exact ⟨by rw [ct_off (by omega)]; exact h1, by rw [ct_off (by omega)]; exact h2, by rw [ct_off (by omega)]; exact h3, by rw [ct_off (by omega)]; exact h4, by rw [ct_off (by omega)]; exact h5, by rw [ct_off (by omega)]; exact h6, by rw [ct_off (by omega)]; exact h7⟩
end P30a
section P30
variable {S : mm_S} {d : Nat} {M : mm_M} {co ln st en to pa f lc uc cp oc : Nat → Int32} {ch tr nI0 lvI : Int32} {n lv a : Nat}
set_option maxRecDepth 8000 in
theorem c20p  (h : CHF M co ln st en to pa nI0 lvI ch tr)  : mm_R S d 20 0 (mm_en 20 [.ref 35]) [] M (fun v M' => v = some (.int (nI0)) ∧ M' = M) := by
  have g := c20 (S := S) (d := d) (M := M) (co := co) (ln := ln) (st := st) (en := en) (to := to) (pa := pa) (nI0 := nI0) (lvI := lvI) (ch := ch) (tr := tr) 
  rw [ch_self h] at g
  exact g
set_option maxRecDepth 8000 in
theorem c24p {i : Nat} (h : CHF M co ln st en to pa nI0 lvI ch tr) (hi : i < 32) : mm_R S (d + 1) 24 0 (mm_en 24 [.ref 35, .int (nI i)]) [] M (fun v M' => v = some (.int (zb (bt ch i))) ∧ M' = M) := by
  have g := c24 (S := S) (d := d) (M := M) (co := co) (ln := ln) (st := st) (en := en) (to := to) (pa := pa) (nI0 := nI0) (lvI := lvI) (ch := ch) (tr := tr) hi
  rw [ch_self h] at g
  exact g
set_option maxRecDepth 8000 in
theorem c26p {i : Nat} (h : CHF M co ln st en to pa nI0 lvI ch tr) (hi : i < 14) : mm_R S d 26 0 (mm_en 26 [.ref 35, .int (nI i)]) [] M (fun v M' => v = some (.int (ln i)) ∧ M' = M) := by
  have g := c26 (S := S) (d := d) (M := M) (co := co) (ln := ln) (st := st) (en := en) (to := to) (pa := pa) (nI0 := nI0) (lvI := lvI) (ch := ch) (tr := tr) hi
  rw [ch_self h] at g
  exact g
set_option maxRecDepth 8000 in
theorem c27p {i : Nat} (h : CHF M co ln st en to pa nI0 lvI ch tr) (hi : i < 14) : mm_R S d 27 0 (mm_en 27 [.ref 35, .int (nI i)]) [] M (fun v M' => v = some (.int (st i)) ∧ M' = M) := by
  have g := c27 (S := S) (d := d) (M := M) (co := co) (ln := ln) (st := st) (en := en) (to := to) (pa := pa) (nI0 := nI0) (lvI := lvI) (ch := ch) (tr := tr) hi
  rw [ch_self h] at g
  exact g
set_option maxRecDepth 8000 in
theorem c28p {i : Nat} (h : CHF M co ln st en to pa nI0 lvI ch tr) (hi : i < 14) : mm_R S d 28 0 (mm_en 28 [.ref 35, .int (nI i)]) [] M (fun v M' => v = some (.int (en i)) ∧ M' = M) := by
  have g := c28 (S := S) (d := d) (M := M) (co := co) (ln := ln) (st := st) (en := en) (to := to) (pa := pa) (nI0 := nI0) (lvI := lvI) (ch := ch) (tr := tr) hi
  rw [ch_self h] at g
  exact g
set_option maxRecDepth 8000 in
theorem c23p {y : Int32} (h : CHF M co ln st en to pa nI0 lvI ch tr)  : mm_R S d 23 0 (mm_en 23 [.ref 35, .int y]) [] M (fun v M' => v = some (.int (row17 co y)) ∧ M' = M) := by
  have g := c23 (S := S) (d := d) (M := M) (co := co) (ln := ln) (st := st) (en := en) (to := to) (pa := pa) (nI0 := nI0) (lvI := lvI) (ch := ch) (tr := tr) (y := y)
  rw [ch_self h] at g
  exact g
set_option maxRecDepth 8000 in
theorem c25p {i : Nat} (h : CHF M co ln st en to pa (nI n) (nI lv) ch tr) (hi : i < 1000) (hlv : lv < 1000) : mm_R S d 25 0 (mm_en 25 [.ref 35, .int (nI i)]) [] M (fun v M' => v = some (.int (zb (decide (i < lv)))) ∧ M' = M) := by
  have g := c25 (S := S) (d := d) (M := M) (co := co) (ln := ln) (st := st) (en := en) (to := to) (pa := pa) (ch := ch) (tr := tr) (n := n) (lv := lv) hi hlv
  rw [ch_self h] at g
  exact g
def qlev (q : QS) (y s t : Nat) : QS := (upd q.1 y (q.1 y ||| spn s t), q.2.1, upd q.2.2.1 y (q.2.2.1 y ||| spn s (t + 1)), q.2.2.2)
set_option maxRecDepth 8000 in
theorem c42 {y s t : Nat} (h : CUF M) (hy : y < 17) : mm_R S (d + 1) 42 0 (mm_en 42 [.ref 42, .int (nI y), .int (nI s), .int (nI t)]) [] (ctm M (lc, uc, cp, oc)) (fun v M' => v = none ∧ M' = ctm M (qlev (lc, uc, cp, oc) y s t)) := by
  show mm_R S (d + 1) 42 0 [some (.ref 42), some (.int (nI y)), some (.int (nI s)), some (.int (nI t))] [] (ctm M (lc, uc, cp, oc)) _
  refine R_aload_n (q := 1) rfl rfl rfl ?_
  refine R_getf (q := 4) rfl rfl rfl (ct_42 h) rfl ?_
  refine R_iload_n (q := 5) rfl rfl rfl ?_
  refine R_dup2 (q := 6) rfl rfl ?_
  refine R_iaload (q := 7) rfl rfl ct_43 (by omega) (by first | assumption | exact in_nI (by omega) (by decide)) ?_
  rw [cl_nI (by omega)]
  refine R_iload_n (q := 8) rfl rfl rfl ?_
  refine R_iload_n (q := 9) rfl rfl rfl ?_
  refine R_calls2 (q := 12) rfl rfl rfl rfl (Nat.le_of_ble_eq_true rfl) rfl ?_
  refine R_mono (c145) (fun v9 M9 hr9 => ?_)
  obtain ⟨rfl, hm9⟩ := hr9
  rw [hm9]
  dsimp only [Option.toList, List.cons_append, List.nil_append]
  refine R_ior (q := 13) rfl rfl ?_
  refine R_iastore (q := 14) rfl rfl ct_43 (by first | assumption | exact in_nI (by omega) (by decide)) ?_
  rw [cl_nI (by omega), ct_p43]
  refine R_aload_n (q := 15) rfl rfl rfl ?_
  refine R_getf (q := 18) rfl rfl rfl (ct_42 h) rfl ?_
  refine R_iload_n (q := 19) rfl rfl rfl ?_
  refine R_dup2 (q := 20) rfl rfl ?_
  refine R_iaload (q := 21) rfl rfl ct_45 (by omega) (by first | assumption | exact in_nI (by omega) (by decide)) ?_
  rw [cl_nI (by omega)]
  refine R_iload_n (q := 22) rfl rfl rfl ?_
  refine R_iload_n (q := 23) rfl rfl rfl ?_
  refine R_iconst (q := 24) (v := nI 1) rfl rfl (by decide) ?_
  refine R_iadd (q := 25) rfl rfl ?_
  rw [nI_add]
  refine R_calls2 (q := 28) rfl rfl rfl rfl (Nat.le_of_ble_eq_true rfl) rfl ?_
  refine R_mono (c145) (fun v25 M25 hr25 => ?_)
  obtain ⟨rfl, hm25⟩ := hr25
  rw [hm25]
  dsimp only [Option.toList, List.cons_append, List.nil_append]
  refine R_ior (q := 29) rfl rfl ?_
  refine R_iastore (q := 30) rfl rfl ct_45 (by first | assumption | exact in_nI (by omega) (by decide)) ?_
  rw [cl_nI (by omega), ct_p45]
  refine R_return rfl rfl ?_
  exact ⟨rfl, rfl⟩
def qupr (q : QS) (x s t : Nat) : QS := (q.1, ifr (fun y => q.2.1 y ||| bi x) q.2.1 s t, upd (ifr (fun y => q.2.2.1 y ||| bi x) q.2.2.1 s t) t (ifr (fun y => q.2.2.1 y ||| bi x) q.2.2.1 s t t ||| bi x), q.2.2.2)
set_option maxRecDepth 8000 in
theorem c43 {x s t : Nat} (h : CUF M) (hst : s ≤ t) (ht : t < 17) : mm_R S d 43 0 (mm_en 43 [.ref 42, .int (nI x), .int (nI s), .int (nI t)]) [] (ctm M (lc, uc, cp, oc)) (fun v M' => v = none ∧ M' = ctm M (qupr (lc, uc, cp, oc) x s t)) := by
  show mm_R S d 43 0 [some (.ref 42), some (.int (nI x)), some (.int (nI s)), some (.int (nI t)), none] [] (ctm M (lc, uc, cp, oc)) _
  refine R_iload_n (q := 1) rfl rfl rfl ?_
  refine R_istore (q := 3) rfl rfl (Nat.le_of_ble_eq_true rfl) rfl ?_
  dsimp only [List.set]
  refine R_atM (M' := (ctm M (lc, ifr (fun y => uc y ||| bi x) uc s s, ifr (fun y => cp y ||| bi x) cp s s, oc))) (by rw [ifr_0, ifr_0]) ?_
  refine lpM (fun y => mm_R S d 43 3 [some (.ref 42), some (.int (nI x)), some (.int (nI s)), some (.int (nI t)), some (.int (nI y))] [] (ctm M (lc, ifr (fun y => uc y ||| bi x) uc s y, ifr (fun y => cp y ||| bi x) cp s y, oc)) (fun v M' => v = none ∧ M' = ctm M (qupr (lc, uc, cp, oc) x s t))) s t (fun y hy0 hy ih => ?_) ?_ s (Nat.le_refl _) hst
  · skip
    refine R_iload (q := 5) rfl rfl rfl ?_
    refine R_iload_n (q := 6) rfl rfl rfl ?_
    refine R_icmp_ge (q := 9) (t := 41) rfl rfl rfl (fun h6 => absurd h6 (nI_ge hy (by omega))) (fun h6 => ?_)
    refine R_aload_n (q := 10) rfl rfl rfl ?_
    refine R_getf (q := 13) rfl rfl rfl (ct_42 h) rfl ?_
    refine R_iload (q := 15) rfl rfl rfl ?_
    refine R_dup2 (q := 16) rfl rfl ?_
    refine R_iaload (q := 17) rfl rfl ct_44 (by omega) (by first | assumption | exact in_nI (by omega) (by decide)) ?_
    rw [cl_nI (by omega), ifr_ge]
    refine R_iconst (q := 18) (v := nI 1) rfl rfl (by decide) ?_
    refine R_iload_n (q := 19) rfl rfl rfl ?_
    refine R_ishl (q := 20) rfl rfl ?_
    refine R_ior (q := 21) rfl rfl ?_
    refine R_iastore (q := 22) rfl rfl ct_44 (by first | assumption | exact in_nI (by omega) (by decide)) ?_
    rw [cl_nI (by omega), ct_p44]
    refine R_aload_n (q := 23) rfl rfl rfl ?_
    refine R_getf (q := 26) rfl rfl rfl (ct_42 h) rfl ?_
    refine R_iload (q := 28) rfl rfl rfl ?_
    refine R_dup2 (q := 29) rfl rfl ?_
    refine R_iaload (q := 30) rfl rfl ct_45 (by omega) (by first | assumption | exact in_nI (by omega) (by decide)) ?_
    rw [cl_nI (by omega), ifr_ge]
    refine R_iconst (q := 31) (v := nI 1) rfl rfl (by decide) ?_
    refine R_iload_n (q := 32) rfl rfl rfl ?_
    refine R_ishl (q := 33) rfl rfl ?_
    refine R_ior (q := 34) rfl rfl ?_
    refine R_iastore (q := 35) rfl rfl ct_45 (by first | assumption | exact in_nI (by omega) (by decide)) ?_
    rw [cl_nI (by omega), ct_p45]
    refine R_iinc (q := 38) rfl rfl rfl (nI_i1 y) rfl ?_
    dsimp only [List.set]
    refine R_goto (t := 3) rfl rfl ?_
    refine R_atM ?_ ih
    rw [← ifr_s (n := fun y => uc y ||| bi x) hy0, ← ifr_s (n := fun y => cp y ||| bi x) hy0]
    rfl
  · refine R_iload (q := 5) rfl rfl rfl ?_
    refine R_iload_n (q := 6) rfl rfl rfl ?_
    refine R_icmp_ge (q := 9) (t := 41) rfl rfl rfl (fun h6 => ?_) (fun h6 => absurd (nI_le (Nat.le_refl _) (by omega)) h6)
    refine R_aload_n (q := 42) rfl rfl rfl ?_
    refine R_getf (q := 45) rfl rfl rfl (ct_42 h) rfl ?_
    refine R_iload_n (q := 46) rfl rfl rfl ?_
    refine R_dup2 (q := 47) rfl rfl ?_
    refine R_iaload (q := 48) rfl rfl ct_45 (by omega) (by first | assumption | exact in_nI (by omega) (by decide)) ?_
    rw [cl_nI (by omega)]
    refine R_iconst (q := 49) (v := nI 1) rfl rfl (by decide) ?_
    refine R_iload_n (q := 50) rfl rfl rfl ?_
    refine R_ishl (q := 51) rfl rfl ?_
    refine R_ior (q := 52) rfl rfl ?_
    refine R_iastore (q := 53) rfl rfl ct_45 (by first | assumption | exact in_nI (by omega) (by decide)) ?_
    rw [cl_nI (by omega), ct_p45]
    refine R_return rfl rfl ?_
    exact ⟨rfl, rfl⟩
def goR (g c : Nat → Bool) : Nat → Nat → Nat
  | 0, e => e
  | k + 1, e => if g e = true ∧ c e = false then goR g c k (e + 1) else e
def goL (g c : Nat → Bool) : Nat → Nat
  | 0 => 0
  | e + 1 => if g e = true ∧ c (e + 1) = false then goL g c e else e + 1
def qfrom (q : QS) (x y : Nat) (inn : Int32) : QS := if bt inn x = true then qlev q y x (goR (bt inn) (bt (q.2.2.1 y)) (15 - x) (x + 1)) else qlev q y (goL (bt inn) (bt (q.2.2.1 y)) (x - 1)) x
theorem goR_le {g c : Nat → Bool} : ∀ k e, goR g c k e ≤ e + k := by
  intro k
  induction k with
  | zero => intro e; exact Nat.le_refl _
  | succ k ih =>
    intro e
    unfold goR
    split
    · have := ih (e + 1); omega
    · omega
theorem goL_le {g c : Nat → Bool} : ∀ e, goL g c e ≤ e := by
  intro e
  induction e with
  | zero => exact Nat.le_refl _
  | succ e ih =>
    unfold goL
    split
    · omega
    · omega
set_option maxRecDepth 8000 in
theorem c44 {x y : Nat} {inn : Int32} (h : CUF M) (hx : 1 ≤ x ∧ x < 16) (hy : y < 17) : mm_R S (d + 2) 44 0 (mm_en 44 [.ref 42, .int (nI x), .int (nI y), .int inn]) [] (ctm M (lc, uc, cp, oc)) (fun v M' => v = none ∧ M' = ctm M (qfrom (lc, uc, cp, oc) x y inn)) := by
  have h42 := ct_42 (q := (lc, uc, cp, oc)) h
  have hR : ∀ (k e : Nat), e + k = 16 → mm_R S (d + 2) 44 14 [some (.ref 42), some (.int (nI x)), some (.int (nI y)), some (.int inn), some (.int (nI e))] [] (ctm M (lc, uc, cp, oc)) (fun v M' => v = none ∧ M' = ctm M (qlev (lc, uc, cp, oc) y x (goR (bt inn) (bt (cp y)) k e))) := by
    intro k
    induction k with
    | zero =>
      intro e he
      refine R_iload (q := 16) rfl rfl rfl ?_
      refine R_bipush (q := 18) (v := nI 16) rfl rfl (by decide) ?_
      refine R_icmp_ge (q := 21) (t := 44) rfl rfl rfl (fun h18 => ?_) (fun h18 => absurd (nI_le (by omega) (by omega)) h18)
      refine R_aload_n (q := 45) rfl rfl rfl ?_
      refine R_iload_n (q := 46) rfl rfl rfl ?_
      refine R_iload_n (q := 47) rfl rfl rfl ?_
      refine R_iload (q := 49) rfl rfl rfl ?_
      refine R_callv3 (q := 52) rfl rfl rfl rfl h42 (Nat.le_of_ble_eq_true rfl) rfl ?_
      refine R_mono (c42 h hy) (fun v49 M49 hr49 => ?_)
      obtain ⟨rfl, hm49⟩ := hr49
      rw [hm49]
      dsimp only [Option.toList, List.cons_append, List.nil_append]
      refine R_goto (t := 96) rfl rfl ?_
      refine R_return rfl rfl ?_
      exact ⟨rfl, rfl⟩
    | succ k ih =>
      intro e he
      have hst : goR (bt inn) (bt (cp y)) (k + 1) e = (if bt inn e = true ∧ bt (cp y) e = false then goR (bt inn) (bt (cp y)) k (e + 1) else e) := rfl
      rw [hst]
      refine R_iload (q := 16) rfl rfl rfl ?_
      refine R_bipush (q := 18) (v := nI 16) rfl rfl (by decide) ?_
      refine R_icmp_ge (q := 21) (t := 44) rfl rfl rfl (fun h18 => absurd h18 (nI_ge (by omega) (by omega))) (fun h18 => ?_)
      refine R_iload_n (q := 22) rfl rfl rfl ?_
      refine R_iload (q := 24) rfl rfl rfl ?_
      refine R_calls2 (q := 27) rfl rfl rfl rfl (Nat.le_of_ble_eq_true rfl) rfl ?_
      refine R_mono (c142 (by omega)) (fun v24 M24 hr24 => ?_)
      obtain ⟨rfl, hm24⟩ := hr24
      rw [hm24]
      dsimp only [Option.toList, List.cons_append, List.nil_append]
      refine R_if_eq (q := 30) (t := 44) rfl rfl rfl (fun h27 => ?_) (fun h27 => ?_)
      · rw [if_neg (by
          rintro ⟨q1, q2⟩
          first
            | (rw [zb_eq0.mp h27] at q1; cases q1; done)
            | (rw [zb_ne0.mp h41] at q2; cases q2; done))]
        refine R_aload_n (q := 45) rfl rfl rfl ?_
        refine R_iload_n (q := 46) rfl rfl rfl ?_
        refine R_iload_n (q := 47) rfl rfl rfl ?_
        refine R_iload (q := 49) rfl rfl rfl ?_
        refine R_callv3 (q := 52) rfl rfl rfl rfl h42 (Nat.le_of_ble_eq_true rfl) rfl ?_
        refine R_mono (c42 h hy) (fun v49 M49 hr49 => ?_)
        obtain ⟨rfl, hm49⟩ := hr49
        rw [hm49]
        dsimp only [Option.toList, List.cons_append, List.nil_append]
        refine R_goto (t := 96) rfl rfl ?_
        refine R_return rfl rfl ?_
        exact ⟨rfl, rfl⟩
      · refine R_aload_n (q := 31) rfl rfl rfl ?_
        refine R_getf (q := 34) rfl rfl rfl (ct_42 h) rfl ?_
        refine R_iload_n (q := 35) rfl rfl rfl ?_
        refine R_iaload (q := 36) rfl rfl ct_45 (by omega) (by first | assumption | exact in_nI (by omega) (by decide)) ?_
        rw [cl_nI (by omega)]
        refine R_iload (q := 38) rfl rfl rfl ?_
        refine R_calls2 (q := 41) rfl rfl rfl rfl (Nat.le_of_ble_eq_true rfl) rfl ?_
        refine R_mono (c142 (by omega)) (fun v38 M38 hr38 => ?_)
        obtain ⟨rfl, hm38⟩ := hr38
        rw [hm38]
        dsimp only [Option.toList, List.cons_append, List.nil_append]
        refine R_if_eq (q := 44) (t := 11) rfl rfl rfl (fun h41 => ?_) (fun h41 => ?_)
        · refine R_iinc (q := 14) rfl rfl rfl (nI_i1 e) rfl ?_
          dsimp only [List.set]
          rw [if_pos ⟨zb_ne0.mp h27, zb_eq0.mp h41⟩]
          exact ih (e + 1) (by omega)
        · rw [if_neg (by
            rintro ⟨q1, q2⟩
            first
              | (rw [zb_eq0.mp h27] at q1; cases q1; done)
              | (rw [zb_ne0.mp h41] at q2; cases q2; done))]
          refine R_aload_n (q := 45) rfl rfl rfl ?_
          refine R_iload_n (q := 46) rfl rfl rfl ?_
          refine R_iload_n (q := 47) rfl rfl rfl ?_
          refine R_iload (q := 49) rfl rfl rfl ?_
          refine R_callv3 (q := 52) rfl rfl rfl rfl h42 (Nat.le_of_ble_eq_true rfl) rfl ?_
          refine R_mono (c42 h hy) (fun v49 M49 hr49 => ?_)
          obtain ⟨rfl, hm49⟩ := hr49
          rw [hm49]
          dsimp only [Option.toList, List.cons_append, List.nil_append]
          refine R_goto (t := 96) rfl rfl ?_
          refine R_return rfl rfl ?_
          exact ⟨rfl, rfl⟩
  have hL : ∀ (e : Nat), e < 16 → mm_R S (d + 2) 44 58 [some (.ref 42), some (.int (nI x)), some (.int (nI y)), some (.int inn), some (.int (nI e))] [] (ctm M (lc, uc, cp, oc)) (fun v M' => v = none ∧ M' = ctm M (qlev (lc, uc, cp, oc) y (goL (bt inn) (bt (cp y)) e) x)) := by
    intro e
    induction e with
    | zero =>
      intro he
      refine R_iload (q := 60) rfl rfl rfl ?_
      refine R_if_le (q := 63) (t := 88) rfl rfl rfl (fun h60 => ?_) (fun h60 => absurd (by decide) h60)
      refine R_aload_n (q := 89) rfl rfl rfl ?_
      refine R_iload_n (q := 90) rfl rfl rfl ?_
      refine R_iload (q := 92) rfl rfl rfl ?_
      refine R_iload_n (q := 93) rfl rfl rfl ?_
      refine R_callv3 (q := 96) rfl rfl rfl rfl h42 (Nat.le_of_ble_eq_true rfl) rfl ?_
      refine R_mono (c42 h hy) (fun v93 M93 hr93 => ?_)
      obtain ⟨rfl, hm93⟩ := hr93
      rw [hm93]
      dsimp only [Option.toList, List.cons_append, List.nil_append]
      refine R_return rfl rfl ?_
      exact ⟨rfl, rfl⟩
    | succ e ih =>
      intro he
      have hst : goL (bt inn) (bt (cp y)) (e + 1) = (if bt inn e = true ∧ bt (cp y) (e + 1) = false then goL (bt inn) (bt (cp y)) e else e + 1) := rfl
      rw [hst]
      refine R_iload (q := 60) rfl rfl rfl ?_
      refine R_if_le (q := 63) (t := 88) rfl rfl rfl (fun h60 => absurd h60 (nI_nle (by omega) (by omega))) (fun h60 => ?_)
      refine R_iload_n (q := 64) rfl rfl rfl ?_
      refine R_iload (q := 66) rfl rfl rfl ?_
      refine R_iconst (q := 67) (v := nI 1) rfl rfl (by decide) ?_
      refine R_isub (q := 68) rfl rfl ?_
      rw [show nI (e + 1) - nI 1 = nI e from nI_pred e]
      refine R_calls2 (q := 71) rfl rfl rfl rfl (Nat.le_of_ble_eq_true rfl) rfl ?_
      refine R_mono (c142 (by omega)) (fun v68 M68 hr68 => ?_)
      obtain ⟨rfl, hm68⟩ := hr68
      rw [hm68]
      dsimp only [Option.toList, List.cons_append, List.nil_append]
      refine R_if_eq (q := 74) (t := 88) rfl rfl rfl (fun h71 => ?_) (fun h71 => ?_)
      · rw [if_neg (by
          rintro ⟨q1, q2⟩
          first
            | (rw [zb_eq0.mp h71] at q1; cases q1; done)
            | (rw [zb_ne0.mp h85] at q2; cases q2; done))]
        refine R_aload_n (q := 89) rfl rfl rfl ?_
        refine R_iload_n (q := 90) rfl rfl rfl ?_
        refine R_iload (q := 92) rfl rfl rfl ?_
        refine R_iload_n (q := 93) rfl rfl rfl ?_
        refine R_callv3 (q := 96) rfl rfl rfl rfl h42 (Nat.le_of_ble_eq_true rfl) rfl ?_
        refine R_mono (c42 h hy) (fun v93 M93 hr93 => ?_)
        obtain ⟨rfl, hm93⟩ := hr93
        rw [hm93]
        dsimp only [Option.toList, List.cons_append, List.nil_append]
        refine R_return rfl rfl ?_
        exact ⟨rfl, rfl⟩
      · refine R_aload_n (q := 75) rfl rfl rfl ?_
        refine R_getf (q := 78) rfl rfl rfl (ct_42 h) rfl ?_
        refine R_iload_n (q := 79) rfl rfl rfl ?_
        refine R_iaload (q := 80) rfl rfl ct_45 (by omega) (by first | assumption | exact in_nI (by omega) (by decide)) ?_
        rw [cl_nI (by omega)]
        refine R_iload (q := 82) rfl rfl rfl ?_
        refine R_calls2 (q := 85) rfl rfl rfl rfl (Nat.le_of_ble_eq_true rfl) rfl ?_
        refine R_mono (c142 (by omega)) (fun v82 M82 hr82 => ?_)
        obtain ⟨rfl, hm82⟩ := hr82
        rw [hm82]
        dsimp only [Option.toList, List.cons_append, List.nil_append]
        refine R_if_eq (q := 88) (t := 55) rfl rfl rfl (fun h85 => ?_) (fun h85 => ?_)
        · refine R_iinc (q := 58) rfl rfl rfl (pk_m1 e) rfl ?_
          dsimp only [List.set]
          rw [if_pos ⟨zb_ne0.mp h71, zb_eq0.mp h85⟩]
          exact ih (by omega)
        · rw [if_neg (by
            rintro ⟨q1, q2⟩
            first
              | (rw [zb_eq0.mp h71] at q1; cases q1; done)
              | (rw [zb_ne0.mp h85] at q2; cases q2; done))]
          refine R_aload_n (q := 89) rfl rfl rfl ?_
          refine R_iload_n (q := 90) rfl rfl rfl ?_
          refine R_iload (q := 92) rfl rfl rfl ?_
          refine R_iload_n (q := 93) rfl rfl rfl ?_
          refine R_callv3 (q := 96) rfl rfl rfl rfl h42 (Nat.le_of_ble_eq_true rfl) rfl ?_
          refine R_mono (c42 h hy) (fun v93 M93 hr93 => ?_)
          obtain ⟨rfl, hm93⟩ := hr93
          rw [hm93]
          dsimp only [Option.toList, List.cons_append, List.nil_append]
          refine R_return rfl rfl ?_
          exact ⟨rfl, rfl⟩
  obtain ⟨x0, rfl⟩ : ∃ x0, x = x0 + 1 := ⟨x - 1, by omega⟩
  unfold qfrom
  show mm_R S (d + 2) 44 0 [some (.ref 42), some (.int (nI (x0 + 1))), some (.int (nI y)), some (.int inn), none] [] (ctm M (lc, uc, cp, oc)) _
  refine R_iload_n (q := 1) rfl rfl rfl ?_
  refine R_istore (q := 3) rfl rfl (Nat.le_of_ble_eq_true rfl) rfl ?_
  dsimp only [List.set]
  refine R_iload_n (q := 4) rfl rfl rfl ?_
  refine R_iload_n (q := 5) rfl rfl rfl ?_
  refine R_calls2 (q := 8) rfl rfl rfl rfl (Nat.le_of_ble_eq_true rfl) rfl ?_
  refine R_mono (c142 (by omega)) (fun v5 M5 hr5 => ?_)
  obtain ⟨rfl, hm5⟩ := hr5
  rw [hm5]
  dsimp only [Option.toList, List.cons_append, List.nil_append]
  refine R_if_eq (q := 11) (t := 55) rfl rfl rfl (fun h8 => ?_) (fun h8 => ?_)
  · refine R_iinc (q := 58) rfl rfl rfl (pk_m1 x0) rfl ?_
    dsimp only [List.set]
    rw [if_neg (by rw [zb_eq0.mp h8]; decide), Nat.add_sub_cancel]
    exact hL x0 (by omega)
  · refine R_iinc (q := 14) rfl rfl rfl (nI_i1 (x0 + 1)) rfl ?_
    dsimp only [List.set]
    rw [if_pos (zb_ne0.mp h8)]
    exact hR (15 - (x0 + 1)) (x0 + 1 + 1) (by omega)
def qch (q : QS) (lev : Bool) (A B C : Nat) : QS := if lev then ((qlev q A B C).1, (qlev q A B C).2.1, (qlev q A B C).2.2.1, upd q.2.2.2 A (q.2.2.2 A &&& ((bi B ^^^ (-1)) &&& (bi C ^^^ (-1))))) else ((qupr q A B C).1, (qupr q A B C).2.1, (qupr q A B C).2.2.1, upd (upd q.2.2.2 B (q.2.2.2 B &&& (bi A ^^^ (-1)))) C (upd q.2.2.2 B (q.2.2.2 B &&& (bi A ^^^ (-1))) C &&& (bi A ^^^ (-1))))
set_option maxRecDepth 8000 in
theorem c41 {i A B C : Nat} (h : CUF M) (hc : CHF M co ln st en to pa (nI n) (nI lv) ch tr) (hi : i < 14) (hlv : lv < 1000) (hA : ln i = nI A ∧ A < 17) (hB : st i = nI B ∧ B ≤ C) (hC : en i = nI C ∧ C < 17) : mm_R S (d + 2) 41 0 (mm_en 41 [.ref 42, .ref 35, .int (nI i)]) [] (ctm M (lc, uc, cp, oc)) (fun v M' => v = none ∧ M' = ctm M (qch (lc, uc, cp, oc) (decide (i < lv)) A B C)) := by
  have hc2 := ct_CHF (q := (lc, uc, cp, oc)) hc
  have h35 := hc2.1
  have h42 := ct_42 (q := (lc, uc, cp, oc)) h
  show mm_R S (d + 2) 41 0 [some (.ref 42), some (.ref 35), some (.int (nI i)), none, none, none] [] (ctm M (lc, uc, cp, oc)) _
  refine R_aload_n (q := 1) rfl rfl rfl ?_
  refine R_iload_n (q := 2) rfl rfl rfl ?_
  refine R_callv1 (q := 5) rfl rfl rfl rfl h35 (Nat.le_of_ble_eq_true rfl) rfl ?_
  refine R_mono (c26p hc2 hi) (fun v2 M2 hr2 => ?_)
  obtain ⟨rfl, hm2⟩ := hr2
  rw [hm2]
  dsimp only [Option.toList, List.cons_append, List.nil_append]
  rw [hA.1]
  refine R_istore_n (q := 6) rfl rfl (Nat.le_of_ble_eq_true rfl) rfl ?_
  dsimp only [List.set]
  refine R_aload_n (q := 7) rfl rfl rfl ?_
  refine R_iload_n (q := 8) rfl rfl rfl ?_
  refine R_callv1 (q := 11) rfl rfl rfl rfl h35 (Nat.le_of_ble_eq_true rfl) rfl ?_
  refine R_mono (c27p hc2 hi) (fun v8 M8 hr8 => ?_)
  obtain ⟨rfl, hm8⟩ := hr8
  rw [hm8]
  dsimp only [Option.toList, List.cons_append, List.nil_append]
  rw [hB.1]
  refine R_istore (q := 13) rfl rfl (Nat.le_of_ble_eq_true rfl) rfl ?_
  dsimp only [List.set]
  refine R_aload_n (q := 14) rfl rfl rfl ?_
  refine R_iload_n (q := 15) rfl rfl rfl ?_
  refine R_callv1 (q := 18) rfl rfl rfl rfl h35 (Nat.le_of_ble_eq_true rfl) rfl ?_
  refine R_mono (c28p hc2 hi) (fun v15 M15 hr15 => ?_)
  obtain ⟨rfl, hm15⟩ := hr15
  rw [hm15]
  dsimp only [Option.toList, List.cons_append, List.nil_append]
  rw [hC.1]
  refine R_istore (q := 20) rfl rfl (Nat.le_of_ble_eq_true rfl) rfl ?_
  dsimp only [List.set]
  refine R_aload_n (q := 21) rfl rfl rfl ?_
  refine R_iload_n (q := 22) rfl rfl rfl ?_
  refine R_callv1 (q := 25) rfl rfl rfl rfl h35 (Nat.le_of_ble_eq_true rfl) rfl ?_
  refine R_mono (c25p hc2 (by omega) hlv) (fun v22 M22 hr22 => ?_)
  obtain ⟨rfl, hm22⟩ := hr22
  rw [hm22]
  dsimp only [Option.toList, List.cons_append, List.nil_append]
  refine R_if_eq (q := 28) (t := 62) rfl rfl rfl (fun h25 => ?_) (fun h25 => ?_)
  · refine R_aload_n (q := 63) rfl rfl rfl ?_
    refine R_iload_n (q := 64) rfl rfl rfl ?_
    refine R_iload (q := 66) rfl rfl rfl ?_
    refine R_iload (q := 68) rfl rfl rfl ?_
    refine R_callv3 (q := 71) rfl rfl rfl rfl h42 (Nat.le_of_ble_eq_true rfl) rfl ?_
    refine R_mono (c43 h hB.2 hC.2) (fun v68 M68 hr68 => ?_)
    obtain ⟨rfl, hm68⟩ := hr68
    rw [hm68]
    dsimp only [Option.toList, List.cons_append, List.nil_append]
    unfold qupr
    refine R_aload_n (q := 72) rfl rfl rfl ?_
    refine R_getf (q := 75) rfl rfl rfl (ct_42 h) rfl ?_
    refine R_iload (q := 77) rfl rfl rfl ?_
    refine R_dup2 (q := 78) rfl rfl ?_
    refine R_iaload (q := 79) rfl rfl ct_46 (by omega) (by first | assumption | exact in_nI (by omega) (by decide)) ?_
    rw [cl_nI (by omega)]
    refine R_iconst (q := 80) (v := nI 1) rfl rfl (by decide) ?_
    refine R_iload_n (q := 81) rfl rfl rfl ?_
    refine R_ishl (q := 82) rfl rfl ?_
    refine R_iconst (q := 83) (v := (-1)) rfl rfl (by decide) ?_
    refine R_ixor (q := 84) rfl rfl ?_
    refine R_iand (q := 85) rfl rfl ?_
    refine R_iastore (q := 86) rfl rfl ct_46 (by first | assumption | exact in_nI (by omega) (by decide)) ?_
    rw [cl_nI (by omega), ct_p46]
    refine R_aload_n (q := 87) rfl rfl rfl ?_
    refine R_getf (q := 90) rfl rfl rfl (ct_42 h) rfl ?_
    refine R_iload (q := 92) rfl rfl rfl ?_
    refine R_dup2 (q := 93) rfl rfl ?_
    refine R_iaload (q := 94) rfl rfl ct_46 (by omega) (by first | assumption | exact in_nI (by omega) (by decide)) ?_
    rw [cl_nI (by omega)]
    refine R_iconst (q := 95) (v := nI 1) rfl rfl (by decide) ?_
    refine R_iload_n (q := 96) rfl rfl rfl ?_
    refine R_ishl (q := 97) rfl rfl ?_
    refine R_iconst (q := 98) (v := (-1)) rfl rfl (by decide) ?_
    refine R_ixor (q := 99) rfl rfl ?_
    refine R_iand (q := 100) rfl rfl ?_
    refine R_iastore (q := 101) rfl rfl ct_46 (by first | assumption | exact in_nI (by omega) (by decide)) ?_
    rw [cl_nI (by omega), ct_p46]
    refine R_return rfl rfl ?_
    first
      | (have hz := zb_ne0.mp h25
         rw [hz]
         exact ⟨rfl, rfl⟩)
      | (have hz := zb_eq0.mp h25
         rw [hz]
         exact ⟨rfl, rfl⟩)
  · refine R_aload_n (q := 29) rfl rfl rfl ?_
    refine R_iload_n (q := 30) rfl rfl rfl ?_
    refine R_iload (q := 32) rfl rfl rfl ?_
    refine R_iload (q := 34) rfl rfl rfl ?_
    refine R_callv3 (q := 37) rfl rfl rfl rfl h42 (Nat.le_of_ble_eq_true rfl) rfl ?_
    refine R_mono (c42 h hA.2) (fun v34 M34 hr34 => ?_)
    obtain ⟨rfl, hm34⟩ := hr34
    rw [hm34]
    dsimp only [Option.toList, List.cons_append, List.nil_append]
    unfold qlev
    refine R_aload_n (q := 38) rfl rfl rfl ?_
    refine R_getf (q := 41) rfl rfl rfl (ct_42 h) rfl ?_
    refine R_iload_n (q := 42) rfl rfl rfl ?_
    refine R_dup2 (q := 43) rfl rfl ?_
    refine R_iaload (q := 44) rfl rfl ct_46 (by omega) (by first | assumption | exact in_nI (by omega) (by decide)) ?_
    rw [cl_nI (by omega)]
    refine R_iconst (q := 45) (v := nI 1) rfl rfl (by decide) ?_
    refine R_iload (q := 47) rfl rfl rfl ?_
    refine R_ishl (q := 48) rfl rfl ?_
    refine R_iconst (q := 49) (v := (-1)) rfl rfl (by decide) ?_
    refine R_ixor (q := 50) rfl rfl ?_
    refine R_iconst (q := 51) (v := nI 1) rfl rfl (by decide) ?_
    refine R_iload (q := 53) rfl rfl rfl ?_
    refine R_ishl (q := 54) rfl rfl ?_
    refine R_iconst (q := 55) (v := (-1)) rfl rfl (by decide) ?_
    refine R_ixor (q := 56) rfl rfl ?_
    refine R_iand (q := 57) rfl rfl ?_
    refine R_iand (q := 58) rfl rfl ?_
    refine R_iastore (q := 59) rfl rfl ct_46 (by first | assumption | exact in_nI (by omega) (by decide)) ?_
    rw [cl_nI (by omega), ct_p46]
    refine R_goto (t := 101) rfl rfl ?_
    refine R_return rfl rfl ?_
    first
      | (have hz := zb_ne0.mp h25
         rw [hz]
         exact ⟨rfl, rfl⟩)
      | (have hz := zb_eq0.mp h25
         rw [hz]
         exact ⟨rfl, rfl⟩)
end P30
