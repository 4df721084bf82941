/-! ===== the reference's own calls, XIX: cutChords ===== -/
def VI (V : Nat → Nat → Bool) (c s t : Nat) : Nat → Nat → Bool := fun y x => V y x || decide (x = c ∧ s ≤ y ∧ y < t)
def PU (P : Nat → Nat → Bool) (c s t : Nat) : Nat → Nat → Bool := fun y x => P y x || decide (x = c ∧ (s ≤ y ∧ y ≤ t) ∧ s < t)
theorem qch_CL {BL LF CT : Nat → Int32} {q : QS} {ln s t : Nat} (h : CTR BL LF CT (HI (hB q) ln s t) (vB q) (PI (pB q) ln s t)) (hst : s < t) (ht : t ≤ 16) : CTR BL LF CT (hB (qch q true ln s t)) (vB (qch q true ln s t)) (pB (qch q true ln s t)) := qlev_C h hst ht
theorem qch_CU {BL LF CT : Nat → Int32} {q : QS} {ln s t : Nat} (h : CTR BL LF CT (hB q) (VI (vB q) ln s t) (PU (pB q) ln s t)) (hst : s < t) (hl : ln ≤ 16) : CTR BL LF CT (hB (qch q false ln s t)) (vB (qch q false ln s t)) (pB (qch q false ln s t)) := by
  refine CTR_cg h (fun y x _ _ => rfl) (fun y x h1 h2 => ?_) (fun y x h1 h2 => ?_)
  · apply Bool.eq_iff_iff.mpr
    have := (qupr_b (q := q) (c := ln) (s := s) (t := t) (y := y) (x := x) (by omega) (by omega) (by omega)).2.1
    refine Iff.trans this ?_
    unfold VI
    rw [Bool.or_eq_true, decide_eq_true_iff]
  · apply Bool.eq_iff_iff.mpr
    have := (qupr_b (q := q) (c := ln) (s := s) (t := t) (y := y) (x := x) (by omega) (by omega) (by omega)).2.2.1
    refine Iff.trans this ?_
    unfold PU
    rw [Bool.or_eq_true, decide_eq_true_iff]
    exact ⟨fun z => z.imp id (fun w => ⟨w.1, w.2, hst⟩), fun z => z.imp id (fun w => ⟨w.1, w.2.1⟩)⟩
theorem oB_L {q : QS} {ln s t x y : Nat} (hs : s < 32) (ht : t < 32) (hx : x < 32) : oB (qch q true ln s t) y x = (oB q y x && !(decide (y = ln ∧ (x = s ∨ x = t)))) := by
  show bt (upd q.2.2.2 ln (q.2.2.2 ln &&& ((bi s ^^^ (-1)) &&& (bi t ^^^ (-1)))) y) x = (bt (q.2.2.2 y) x && _)
  by_cases h : y = ln
  · rw [h, upd_e, b_and, b_and, b_xor, b_xor, bi_bt hs hx, bi_bt ht hx, b_m1 x hx]
    by_cases h1 : x = s
    · rw [decide_eq_true h1, decide_eq_true (p := ln = ln ∧ (x = s ∨ x = t)) ⟨rfl, Or.inl h1⟩]; cases bt (q.2.2.2 ln) x <;> cases decide (x = t) <;> rfl
    · by_cases h2 : x = t
      · rw [decide_eq_true h2, decide_eq_true (p := ln = ln ∧ (x = s ∨ x = t)) ⟨rfl, Or.inr h2⟩]; cases bt (q.2.2.2 ln) x <;> cases decide (x = s) <;> rfl
      · rw [decide_eq_false h1, decide_eq_false h2, decide_eq_false (p := ln = ln ∧ (x = s ∨ x = t)) (fun z => z.2.elim h1 h2)]; cases bt (q.2.2.2 ln) x <;> rfl
  · rw [upd_n h, decide_eq_false (fun z => h z.1)]; cases bt (q.2.2.2 y) x <;> rfl
theorem oB_U {q : QS} {ln s t x y : Nat} (hst : s ≠ t) (hl : ln < 32) (hx : x < 32) : oB (qch q false ln s t) y x = (oB q y x && !(decide (x = ln ∧ (y = s ∨ y = t)))) := by
  have hnb : ∀ v : Int32, bt (v &&& (bi ln ^^^ (-1))) x = (bt v x && !(decide (x = ln))) := fun v => by
    rw [b_and, b_xor, bi_bt hl hx, b_m1 x hx]; cases decide (x = ln) <;> rfl
  show bt (upd (upd q.2.2.2 s (q.2.2.2 s &&& (bi ln ^^^ (-1)))) t (upd q.2.2.2 s (q.2.2.2 s &&& (bi ln ^^^ (-1))) t &&& (bi ln ^^^ (-1))) y) x = (bt (q.2.2.2 y) x && _)
  by_cases h : y = t
  · rw [h, upd_e, upd_n (fun z => hst z.symm), hnb]
    congr 2
    exact decide_eq_decide.mpr ⟨fun z => ⟨z, Or.inr rfl⟩, fun z => z.1⟩
  · rw [upd_n h]
    by_cases h2 : y = s
    · rw [h2, upd_e, hnb]
      congr 2
      exact decide_eq_decide.mpr ⟨fun z => ⟨z, Or.inl rfl⟩, fun z => z.1⟩
    · rw [upd_n h2, decide_eq_false (fun z => z.2.elim h2 h), Bool.not_false, Bool.and_true]
def EOR (f : Nat → Int32) (q : QS) (EN : Nat → Int32) : Prop := ∀ x y, x ≤ 16 → y ≤ 16 → crn f x y = true → EN (17 * y + x) = zb (!(oB q y x))
theorem EOR_L {f EN : Nat → Int32} {q : QS} {ln s t : Nat} (h : EOR f q EN) (hs : s ≤ 16) (ht : t ≤ 16) : EOR f (qch q true ln s t) (upd (upd EN (17 * ln + s) (nI 1)) (17 * ln + t) (nI 1)) := by
  intro x y hx hy hc
  rw [oB_L (by omega) (by omega) (by omega)]
  by_cases hq : y = ln ∧ (x = s ∨ x = t)
  · rw [decide_eq_true hq, Bool.not_true, Bool.and_false]
    rcases hq with ⟨q1, q2 | q2⟩
    · rw [q1, q2]
      by_cases hst : s = t
      · rw [hst, upd_e]; rfl
      · rw [upd_n (by omega), upd_e]; rfl
    · rw [q1, q2, upd_e]; rfl
  · rw [decide_eq_false hq, Bool.not_false, Bool.and_true, upd_n (by omega), upd_n (by omega)]
    exact h x y hx hy hc
theorem EOR_U {f EN : Nat → Int32} {q : QS} {ln s t : Nat} (h : EOR f q EN) (hst : s < t) (hl : ln ≤ 16) (ht : t ≤ 16) : EOR f (qch q false ln s t) (upd (upd EN (17 * s + ln) (nI 1)) (17 * t + ln) (nI 1)) := by
  intro x y hx hy hc
  rw [oB_U (by omega) (by omega) (by omega)]
  by_cases hq : x = ln ∧ (y = s ∨ y = t)
  · rw [decide_eq_true hq, Bool.not_true, Bool.and_false]
    rcases hq with ⟨q1, q2 | q2⟩
    · rw [q1, q2, upd_n (by omega), upd_e]; rfl
    · rw [q1, q2, upd_e]; rfl
  · rw [decide_eq_false hq, Bool.not_false, Bool.and_true, upd_n (by omega), upd_n (by omega)]
    exact h x y hx hy hc
section P70
variable {S : mm_S} {d : Nat} {M : mm_M} {A : AS} {I : Nat → Int32} {sh : Nat → Nat → Int32} {o : OS} {l : LYS} {pi fa tp : IS}
set_option maxRecDepth 8000 in
theorem m185 {n lv Z : Nat} {f : Nat → Int32} {sB tC lA : Nat → Nat} {ch : Int32} {q0 : QS} (hn : n ≤ 14) (hl : lv ≤ n) (hI5 : I 35 = nI lv) (hI6 : I 36 = nI n) (hD : ∀ k, k < n → (A 98 k = nI (sB k) ∧ A 99 k = nI (tC k) ∧ A 100 k = nI (lA k)) ∧ (sB k < tC k ∧ tC k ≤ 16 ∧ lA k ≤ 16)) (hch : ∀ k, k < n → bt ch k = tks n Z k) (hq0 : ∀ y x, y ≤ 16 → x ≤ 16 → (hB q0 y x = false ∧ vB q0 y x = false ∧ pB q0 y x = false) ∧ (crn f x y = true → oB q0 y x = true)) : mm_R S (d + 1) 185 0 (mm_en 185 [.ref 73, .int (nI Z)]) [] (mdm M A I) (fun v M' => v = none ∧ ∃ EN BL LF CT, M' = (mdm M (upa (upa (upa (upa A 104 EN) 101 BL) 102 LF) 103 CT) I) ∧ CTR BL LF CT (hB (qcs lv ch lA sB tC n 0 q0)) (vB (qcs lv ch lA sB tC n 0 q0)) (pB (qcs lv ch lA sB tC n 0 q0)) ∧ EOR f (qcs lv ch lA sB tC n 0 q0) EN) := by
  show mm_R S (d + 1) 185 0 [some (.ref 73), some (.int (nI Z)), none, none, none] [] (mdm M A I) _
  have hlp : ∀ (j k : Nat) (q : QS) (EN BL LF CT : Nat → Int32) (t3 t4 : Option Value), k + j = n → CTR BL LF CT (hB q) (vB q) (pB q) → EOR f q EN → mm_R S (d + 1) 185 60 [some (.ref 73), some (.int (nI Z)), some (.int (nI k)), t3, t4] [] (mdm M (upa (upa (upa (upa A 104 EN) 101 BL) 102 LF) 103 CT) I) (fun v M' => v = none ∧ ∃ EN BL LF CT, M' = (mdm M (upa (upa (upa (upa A 104 EN) 101 BL) 102 LF) 103 CT) I) ∧ CTR BL LF CT (hB (qcs lv ch lA sB tC j k q)) (vB (qcs lv ch lA sB tC j k q)) (pB (qcs lv ch lA sB tC j k q)) ∧ EOR f (qcs lv ch lA sB tC j k q) EN) := by
    intro j
    induction j with
    | zero =>
      intro k q EN BL LF CT t3 t4 hk hC hE
      have hkn : k = n := by omega
      subst hkn
      refine R_iload_n (q := 61) rfl rfl rfl ?_
      refine R_aload_n (q := 62) rfl rfl rfl ?_
      refine R_getf (q := 65) rfl rfl rfl md_73 rfl ?_
      rw [hI6]
      refine R_icmp_ge (q := 68) (t := 256) rfl rfl rfl (fun h65 => ?_) (fun h65 => absurd (nI_le (by omega) (by omega)) h65)
      refine R_return rfl rfl ?_
      exact ⟨rfl, EN, BL, LF, CT, rfl, hC, hE⟩
    | succ j ih =>
      intro k q EN BL LF CT t3 t4 hk hC hE
      have hkn : k < n := by omega
      obtain ⟨⟨d1, d2, d3⟩, d4, d5, d6⟩ := hD k hkn
      have e98 : ∀ EN BL LF CT, upa (upa (upa (upa A 104 EN) 101 BL) 102 LF) 103 CT 98 k = nI (sB k) := fun _ _ _ _ => d1
      have e99 : ∀ EN BL LF CT, upa (upa (upa (upa A 104 EN) 101 BL) 102 LF) 103 CT 99 k = nI (tC k) := fun _ _ _ _ => d2
      have e100 : ∀ EN BL LF CT, upa (upa (upa (upa A 104 EN) 101 BL) 102 LF) 103 CT 100 k = nI (lA k) := fun _ _ _ _ => d3
      have hqs : qcs lv ch lA sB tC (j + 1) k q = qcs lv ch lA sB tC j (k + 1) (if bt ch k = true then qch q (decide (k < lv)) (lA k) (sB k) (tC k) else q) := rfl
      have hgo : ∀ (q' : QS) (EN BL LF CT : Nat → Int32) (t3 t4 : Option Value), q' = (if bt ch k = true then qch q (decide (k < lv)) (lA k) (sB k) (tC k) else q) → CTR BL LF CT (hB q') (vB q') (pB q') → EOR f q' EN → mm_R S (d + 1) 185 250 [some (.ref 73), some (.int (nI Z)), some (.int (nI k)), t3, t4] [] (mdm M (upa (upa (upa (upa A 104 EN) 101 BL) 102 LF) 103 CT) I) (fun v M' => v = none ∧ ∃ EN BL LF CT, M' = (mdm M (upa (upa (upa (upa A 104 EN) 101 BL) 102 LF) 103 CT) I) ∧ CTR BL LF CT (hB (qcs lv ch lA sB tC (j + 1) k q)) (vB (qcs lv ch lA sB tC (j + 1) k q)) (pB (qcs lv ch lA sB tC (j + 1) k q)) ∧ EOR f (qcs lv ch lA sB tC (j + 1) k q) EN) := by
        intro q' EN BL LF CT t3 t4 hq hC hE
        rw [hqs, ← hq]
        refine R_iinc (q := 253) rfl rfl rfl (nI_i1 k) rfl ?_
        dsimp only [List.set]
        refine R_goto (t := 60) rfl rfl ?_
        exact ih (k + 1) q' EN BL LF CT _ _ (by omega) hC hE
      have hno : ∀ (t3 : Option Value), tks n Z k = false → mm_R S (d + 1) 185 82 [some (.ref 73), some (.int (nI Z)), some (.int (nI k)), t3, t4] [] (mdm M (upa (upa (upa (upa A 104 EN) 101 BL) 102 LF) 103 CT) I) (fun v M' => v = none ∧ ∃ EN BL LF CT, M' = (mdm M (upa (upa (upa (upa A 104 EN) 101 BL) 102 LF) 103 CT) I) ∧ CTR BL LF CT (hB (qcs lv ch lA sB tC (j + 1) k q)) (vB (qcs lv ch lA sB tC (j + 1) k q)) (pB (qcs lv ch lA sB tC (j + 1) k q)) ∧ EOR f (qcs lv ch lA sB tC (j + 1) k q) EN) := by
        intro t3 htk
        refine R_aload_n (q := 83) rfl rfl rfl ?_
        refine R_getf (q := 86) rfl rfl rfl md_73 rfl ?_
        refine R_iload_n (q := 87) rfl rfl rfl ?_
        refine R_iaload (q := 88) rfl rfl md_98 (by decide) (by first | assumption | exact in_nI (by omega) (by decide)) ?_
        rw [cl_nI (by omega)]
        rw [e98]
        refine R_istore (q := 90) rfl rfl (Nat.le_of_ble_eq_true rfl) rfl ?_
        dsimp only [List.set]
        refine R_iload (q := 92) rfl rfl rfl ?_
        refine R_aload_n (q := 93) rfl rfl rfl ?_
        refine R_getf (q := 96) rfl rfl rfl md_73 rfl ?_
        refine R_iload_n (q := 97) rfl rfl rfl ?_
        refine R_iaload (q := 98) rfl rfl md_99 (by decide) (by first | assumption | exact in_nI (by omega) (by decide)) ?_
        rw [cl_nI (by omega)]
        rw [e99]
        refine R_icmp_ge (q := 101) (t := 151) rfl rfl rfl (fun h98 => absurd h98 (nI_ge (by omega) (by omega))) (fun h98 => ?_)
        refine R_aload_n (q := 102) rfl rfl rfl ?_
        refine R_iload_n (q := 103) rfl rfl rfl ?_
        refine R_iload_n (q := 104) rfl rfl rfl ?_
        refine R_callv2 (q := 107) rfl rfl rfl rfl md_73 (Nat.le_of_ble_eq_true rfl) rfl ?_
        refine R_mono (m182 (k := k) hn hI6 hkn) (fun v104 M104 hr104 => ?_)
        obtain ⟨rfl, hm104⟩ := hr104
        rw [hm104]
        dsimp only [Option.toList, List.cons_append, List.nil_append]
        rw [htk]
        refine R_if_eq (q := 110) (t := 151) rfl rfl rfl (fun h107 => ?_) (fun h107 => absurd rfl h107)
        refine R_aload_n (q := 152) rfl rfl rfl ?_
        refine R_iload_n (q := 153) rfl rfl rfl ?_
        refine R_iload_n (q := 154) rfl rfl rfl ?_
        refine R_callv2 (q := 157) rfl rfl rfl rfl md_73 (Nat.le_of_ble_eq_true rfl) rfl ?_
        refine R_mono (m182 (k := k) hn hI6 hkn) (fun v154 M154 hr154 => ?_)
        obtain ⟨rfl, hm154⟩ := hr154
        rw [hm154]
        dsimp only [Option.toList, List.cons_append, List.nil_append]
        rw [htk]
        refine R_if_eq (q := 160) (t := 250) rfl rfl rfl (fun h157 => ?_) (fun h157 => absurd rfl h157)
        exact hgo q EN BL LF CT _ _ (by rw [hch k hkn, htk, if_neg (by decide)]) hC hE
      have hyL : k < lv → tks n Z k = true → mm_R S (d + 1) 185 82 [some (.ref 73), some (.int (nI Z)), some (.int (nI k)), some (.int (zb true)), t4] [] (mdm M (upa (upa (upa (upa A 104 EN) 101 BL) 102 LF) 103 CT) I) (fun v M' => v = none ∧ ∃ EN BL LF CT, M' = (mdm M (upa (upa (upa (upa A 104 EN) 101 BL) 102 LF) 103 CT) I) ∧ CTR BL LF CT (hB (qcs lv ch lA sB tC (j + 1) k q)) (vB (qcs lv ch lA sB tC (j + 1) k q)) (pB (qcs lv ch lA sB tC (j + 1) k q)) ∧ EOR f (qcs lv ch lA sB tC (j + 1) k q) EN) := by
        intro hlv htk
        have h151 : ∀ (BL LF CT : Nat → Int32), CTR BL LF CT (HI (hB q) (lA k) (sB k) (tC k)) (vB q) (PI (pB q) (lA k) (sB k) (tC k)) → mm_R S (d + 1) 185 151 [some (.ref 73), some (.int (nI Z)), some (.int (nI k)), some (.int (zb true)), some (.int (nI (tC k)))] [] (mdm M (upa (upa (upa (upa A 104 EN) 101 BL) 102 LF) 103 CT) I) (fun v M' => v = none ∧ ∃ EN BL LF CT, M' = (mdm M (upa (upa (upa (upa A 104 EN) 101 BL) 102 LF) 103 CT) I) ∧ CTR BL LF CT (hB (qcs lv ch lA sB tC (j + 1) k q)) (vB (qcs lv ch lA sB tC (j + 1) k q)) (pB (qcs lv ch lA sB tC (j + 1) k q)) ∧ EOR f (qcs lv ch lA sB tC (j + 1) k q) EN) := by
          intro BL LF CT hC2
          refine R_aload_n (q := 152) rfl rfl rfl ?_
          refine R_iload_n (q := 153) rfl rfl rfl ?_
          refine R_iload_n (q := 154) rfl rfl rfl ?_
          refine R_callv2 (q := 157) rfl rfl rfl rfl md_73 (Nat.le_of_ble_eq_true rfl) rfl ?_
          refine R_mono (m182 (k := k) hn hI6 hkn) (fun v154 M154 hr154 => ?_)
          obtain ⟨rfl, hm154⟩ := hr154
          rw [hm154]
          dsimp only [Option.toList, List.cons_append, List.nil_append]
          rw [htk]
          refine R_if_eq (q := 160) (t := 250) rfl rfl rfl (fun h157 => absurd h157 (by decide)) (fun h157 => ?_)
          refine R_aload_n (q := 161) rfl rfl rfl ?_
          refine R_getf (q := 164) rfl rfl rfl md_73 rfl ?_
          refine R_iload_n (q := 165) rfl rfl rfl ?_
          refine R_if_eq (q := 168) (t := 187) rfl rfl rfl (fun h165 => absurd h165 (by decide)) (fun h165 => ?_)
          refine R_bipush (q := 170) (v := nI 17) rfl rfl (by decide) ?_
          refine R_aload_n (q := 171) rfl rfl rfl ?_
          refine R_getf (q := 174) rfl rfl rfl md_73 rfl ?_
          refine R_iload_n (q := 175) rfl rfl rfl ?_
          refine R_iaload (q := 176) rfl rfl md_100 (by decide) (by first | assumption | exact in_nI (by omega) (by decide)) ?_
          rw [cl_nI (by omega)]
          rw [e100]
          refine R_imul (q := 177) rfl rfl ?_
          rw [pk_mul]
          refine R_aload_n (q := 178) rfl rfl rfl ?_
          refine R_getf (q := 181) rfl rfl rfl md_73 rfl ?_
          refine R_iload_n (q := 182) rfl rfl rfl ?_
          refine R_iaload (q := 183) rfl rfl md_98 (by decide) (by first | assumption | exact in_nI (by omega) (by decide)) ?_
          rw [cl_nI (by omega)]
          rw [e98]
          refine R_iadd (q := 184) rfl rfl ?_
          rw [nI_add]
          refine R_goto (t := 203) rfl rfl ?_
          refine R_iconst (q := 204) (v := nI 1) rfl rfl (by decide) ?_
          refine R_bastore (q := 205) rfl rfl md_104 (by first | assumption | exact in_nI (by omega) (by decide)) (by first | exact Or.inl rfl | exact Or.inr rfl) ?_
          rw [cl_nI (by omega)]
          rw [md_p104]
          rw [upa_cm (a := 103) (b := 104) (by decide), upa_cm (a := 102) (b := 104) (by decide), upa_cm (a := 101) (b := 104) (by decide), upa_u]
          rw [show ∀ EN : Nat → Int32, upa (upa (upa (upa A 104 EN) 101 BL) 102 LF) 103 CT 104 = EN from fun _ => rfl]
          refine R_aload_n (q := 206) rfl rfl rfl ?_
          refine R_getf (q := 209) rfl rfl rfl md_73 rfl ?_
          refine R_iload_n (q := 210) rfl rfl rfl ?_
          refine R_if_eq (q := 213) (t := 232) rfl rfl rfl (fun h210 => absurd h210 (by decide)) (fun h210 => ?_)
          refine R_bipush (q := 215) (v := nI 17) rfl rfl (by decide) ?_
          refine R_aload_n (q := 216) rfl rfl rfl ?_
          refine R_getf (q := 219) rfl rfl rfl md_73 rfl ?_
          refine R_iload_n (q := 220) rfl rfl rfl ?_
          refine R_iaload (q := 221) rfl rfl md_100 (by decide) (by first | assumption | exact in_nI (by omega) (by decide)) ?_
          rw [cl_nI (by omega)]
          rw [e100]
          refine R_imul (q := 222) rfl rfl ?_
          rw [pk_mul]
          refine R_aload_n (q := 223) rfl rfl rfl ?_
          refine R_getf (q := 226) rfl rfl rfl md_73 rfl ?_
          refine R_iload_n (q := 227) rfl rfl rfl ?_
          refine R_iaload (q := 228) rfl rfl md_99 (by decide) (by first | assumption | exact in_nI (by omega) (by decide)) ?_
          rw [cl_nI (by omega)]
          rw [e99]
          refine R_iadd (q := 229) rfl rfl ?_
          rw [nI_add]
          refine R_goto (t := 248) rfl rfl ?_
          refine R_iconst (q := 249) (v := nI 1) rfl rfl (by decide) ?_
          refine R_bastore (q := 250) rfl rfl md_104 (by first | assumption | exact in_nI (by omega) (by decide)) (by first | exact Or.inl rfl | exact Or.inr rfl) ?_
          rw [cl_nI (by omega)]
          rw [md_p104]
          rw [upa_cm (a := 103) (b := 104) (by decide), upa_cm (a := 102) (b := 104) (by decide), upa_cm (a := 101) (b := 104) (by decide), upa_u]
          rw [show ∀ EN : Nat → Int32, upa (upa (upa (upa A 104 EN) 101 BL) 102 LF) 103 CT 104 = EN from fun _ => rfl]
          exact hgo (qch q true (lA k) (sB k) (tC k)) _ BL LF CT _ _ (by rw [hch k hkn, htk, if_pos rfl, decide_eq_true hlv]) (qch_CL hC2 d4 d5) (EOR_L hE (by omega) d5)
        have hin : ∀ (jj i : Nat) (BL LF CT : Nat → Int32), i + jj = tC k → sB k ≤ i → CTR BL LF CT (HI (hB q) (lA k) (sB k) i) (vB q) (PI (pB q) (lA k) (sB k) i) → mm_R S (d + 1) 185 90 [some (.ref 73), some (.int (nI Z)), some (.int (nI k)), some (.int (zb true)), some (.int (nI i))] [] (mdm M (upa (upa (upa (upa A 104 EN) 101 BL) 102 LF) 103 CT) I) (fun v M' => v = none ∧ ∃ EN BL LF CT, M' = (mdm M (upa (upa (upa (upa A 104 EN) 101 BL) 102 LF) 103 CT) I) ∧ CTR BL LF CT (hB (qcs lv ch lA sB tC (j + 1) k q)) (vB (qcs lv ch lA sB tC (j + 1) k q)) (pB (qcs lv ch lA sB tC (j + 1) k q)) ∧ EOR f (qcs lv ch lA sB tC (j + 1) k q) EN) := by
          intro jj
          induction jj with
          | zero =>
            intro i BL LF CT hi hsi hC2
            have hit : i = tC k := by omega
            subst hit
            refine R_iload (q := 92) rfl rfl rfl ?_
            refine R_aload_n (q := 93) rfl rfl rfl ?_
            refine R_getf (q := 96) rfl rfl rfl md_73 rfl ?_
            refine R_iload_n (q := 97) rfl rfl rfl ?_
            refine R_iaload (q := 98) rfl rfl md_99 (by decide) (by first | assumption | exact in_nI (by omega) (by decide)) ?_
            rw [cl_nI (by omega)]
            rw [e99]
            refine R_icmp_ge (q := 101) (t := 151) rfl rfl rfl (fun h98 => ?_) (fun h98 => absurd (nI_le (by omega) (by omega)) h98)
            exact h151 BL LF CT hC2
          | succ jj ih2 =>
            intro i BL LF CT hi hsi hC2
            refine R_iload (q := 92) rfl rfl rfl ?_
            refine R_aload_n (q := 93) rfl rfl rfl ?_
            refine R_getf (q := 96) rfl rfl rfl md_73 rfl ?_
            refine R_iload_n (q := 97) rfl rfl rfl ?_
            refine R_iaload (q := 98) rfl rfl md_99 (by decide) (by first | assumption | exact in_nI (by omega) (by decide)) ?_
            rw [cl_nI (by omega)]
            rw [e99]
            refine R_icmp_ge (q := 101) (t := 151) rfl rfl rfl (fun h98 => absurd h98 (nI_ge (by omega) (by omega))) (fun h98 => ?_)
            refine R_aload_n (q := 102) rfl rfl rfl ?_
            refine R_iload_n (q := 103) rfl rfl rfl ?_
            refine R_iload_n (q := 104) rfl rfl rfl ?_
            refine R_callv2 (q := 107) rfl rfl rfl rfl md_73 (Nat.le_of_ble_eq_true rfl) rfl ?_
            refine R_mono (m182 (k := k) hn hI6 hkn) (fun v104 M104 hr104 => ?_)
            obtain ⟨rfl, hm104⟩ := hr104
            rw [hm104]
            dsimp only [Option.toList, List.cons_append, List.nil_append]
            rw [htk]
            refine R_if_eq (q := 110) (t := 151) rfl rfl rfl (fun h107 => absurd h107 (by decide)) (fun h107 => ?_)
            refine R_aload_n (q := 111) rfl rfl rfl ?_
            refine R_iload_n (q := 112) rfl rfl rfl ?_
            refine R_if_eq (q := 115) (t := 120) rfl rfl rfl (fun h112 => absurd h112 (by decide)) (fun h112 => ?_)
            refine R_iload (q := 117) rfl rfl rfl ?_
            refine R_goto (t := 126) rfl rfl ?_
            refine R_iload_n (q := 127) rfl rfl rfl ?_
            refine R_if_eq (q := 130) (t := 139) rfl rfl rfl (fun h127 => absurd h127 (by decide)) (fun h127 => ?_)
            refine R_aload_n (q := 131) rfl rfl rfl ?_
            refine R_getf (q := 134) rfl rfl rfl md_73 rfl ?_
            refine R_iload_n (q := 135) rfl rfl rfl ?_
            refine R_iaload (q := 136) rfl rfl md_100 (by decide) (by first | assumption | exact in_nI (by omega) (by decide)) ?_
            rw [cl_nI (by omega)]
            rw [e100]
            refine R_goto (t := 141) rfl rfl ?_
            refine R_iload_n (q := 142) rfl rfl rfl ?_
            refine R_callv3 (q := 145) rfl rfl rfl rfl md_73 (Nat.le_of_ble_eq_true rfl) rfl ?_
            refine R_mono (m184_L (x := i) (y := lA k) (by omega) (by omega)) (fun v142 M142 hr142 => ?_)
            obtain ⟨rfl, hm142⟩ := hr142
            rw [hm142]
            dsimp only [Option.toList, List.cons_append, List.nil_append]
            refine R_iinc (q := 148) rfl rfl rfl (nI_i1 i) rfl ?_
            dsimp only [List.set]
            refine R_goto (t := 90) rfl rfl ?_
            refine ih2 (i + 1) _ LF _ (by omega) (by omega) (CTR_L hC2 (by omega) (by omega) (fun y' x' _ _ => ?_) (fun y' x' _ _ => ?_))
            · unfold HI; exact or_dec (by omega)
            · unfold PI; exact or_dec (by omega)
        refine R_aload_n (q := 83) rfl rfl rfl ?_
        refine R_getf (q := 86) rfl rfl rfl md_73 rfl ?_
        refine R_iload_n (q := 87) rfl rfl rfl ?_
        refine R_iaload (q := 88) rfl rfl md_98 (by decide) (by first | assumption | exact in_nI (by omega) (by decide)) ?_
        rw [cl_nI (by omega)]
        rw [e98]
        refine R_istore (q := 90) rfl rfl (Nat.le_of_ble_eq_true rfl) rfl ?_
        dsimp only [List.set]
        exact hin (tC k - sB k) (sB k) BL LF CT (by omega) (Nat.le_refl _) (CTR_cg hC (fun y x _ _ => by unfold HI; rw [decide_eq_false (by omega), Bool.or_false]) (fun _ _ _ _ => rfl) (fun y x _ _ => by unfold PI; rw [decide_eq_false (by omega), Bool.or_false]))
      have hyU : ¬ k < lv → tks n Z k = true → mm_R S (d + 1) 185 82 [some (.ref 73), some (.int (nI Z)), some (.int (nI k)), some (.int (zb false)), t4] [] (mdm M (upa (upa (upa (upa A 104 EN) 101 BL) 102 LF) 103 CT) I) (fun v M' => v = none ∧ ∃ EN BL LF CT, M' = (mdm M (upa (upa (upa (upa A 104 EN) 101 BL) 102 LF) 103 CT) I) ∧ CTR BL LF CT (hB (qcs lv ch lA sB tC (j + 1) k q)) (vB (qcs lv ch lA sB tC (j + 1) k q)) (pB (qcs lv ch lA sB tC (j + 1) k q)) ∧ EOR f (qcs lv ch lA sB tC (j + 1) k q) EN) := by
        intro hlv htk
        have h151 : ∀ (BL LF CT : Nat → Int32), CTR BL LF CT (hB q) (VI (vB q) (lA k) (sB k) (tC k)) (PU (pB q) (lA k) (sB k) (tC k)) → mm_R S (d + 1) 185 151 [some (.ref 73), some (.int (nI Z)), some (.int (nI k)), some (.int (zb false)), some (.int (nI (tC k)))] [] (mdm M (upa (upa (upa (upa A 104 EN) 101 BL) 102 LF) 103 CT) I) (fun v M' => v = none ∧ ∃ EN BL LF CT, M' = (mdm M (upa (upa (upa (upa A 104 EN) 101 BL) 102 LF) 103 CT) I) ∧ CTR BL LF CT (hB (qcs lv ch lA sB tC (j + 1) k q)) (vB (qcs lv ch lA sB tC (j + 1) k q)) (pB (qcs lv ch lA sB tC (j + 1) k q)) ∧ EOR f (qcs lv ch lA sB tC (j + 1) k q) EN) := by
          intro BL LF CT hC2
          refine R_aload_n (q := 152) rfl rfl rfl ?_
          refine R_iload_n (q := 153) rfl rfl rfl ?_
          refine R_iload_n (q := 154) rfl rfl rfl ?_
          refine R_callv2 (q := 157) rfl rfl rfl rfl md_73 (Nat.le_of_ble_eq_true rfl) rfl ?_
          refine R_mono (m182 (k := k) hn hI6 hkn) (fun v154 M154 hr154 => ?_)
          obtain ⟨rfl, hm154⟩ := hr154
          rw [hm154]
          dsimp only [Option.toList, List.cons_append, List.nil_append]
          rw [htk]
          refine R_if_eq (q := 160) (t := 250) rfl rfl rfl (fun h157 => absurd h157 (by decide)) (fun h157 => ?_)
          refine R_aload_n (q := 161) rfl rfl rfl ?_
          refine R_getf (q := 164) rfl rfl rfl md_73 rfl ?_
          refine R_iload_n (q := 165) rfl rfl rfl ?_
          refine R_if_eq (q := 168) (t := 187) rfl rfl rfl (fun h165 => ?_) (fun h165 => absurd rfl h165)
          refine R_bipush (q := 189) (v := nI 17) rfl rfl (by decide) ?_
          refine R_aload_n (q := 190) rfl rfl rfl ?_
          refine R_getf (q := 193) rfl rfl rfl md_73 rfl ?_
          refine R_iload_n (q := 194) rfl rfl rfl ?_
          refine R_iaload (q := 195) rfl rfl md_98 (by decide) (by first | assumption | exact in_nI (by omega) (by decide)) ?_
          rw [cl_nI (by omega)]
          rw [e98]
          refine R_imul (q := 196) rfl rfl ?_
          rw [pk_mul]
          refine R_aload_n (q := 197) rfl rfl rfl ?_
          refine R_getf (q := 200) rfl rfl rfl md_73 rfl ?_
          refine R_iload_n (q := 201) rfl rfl rfl ?_
          refine R_iaload (q := 202) rfl rfl md_100 (by decide) (by first | assumption | exact in_nI (by omega) (by decide)) ?_
          rw [cl_nI (by omega)]
          rw [e100]
          refine R_iadd (q := 203) rfl rfl ?_
          rw [nI_add]
          refine R_iconst (q := 204) (v := nI 1) rfl rfl (by decide) ?_
          refine R_bastore (q := 205) rfl rfl md_104 (by first | assumption | exact in_nI (by omega) (by decide)) (by first | exact Or.inl rfl | exact Or.inr rfl) ?_
          rw [cl_nI (by omega)]
          rw [md_p104]
          rw [upa_cm (a := 103) (b := 104) (by decide), upa_cm (a := 102) (b := 104) (by decide), upa_cm (a := 101) (b := 104) (by decide), upa_u]
          rw [show ∀ EN : Nat → Int32, upa (upa (upa (upa A 104 EN) 101 BL) 102 LF) 103 CT 104 = EN from fun _ => rfl]
          refine R_aload_n (q := 206) rfl rfl rfl ?_
          refine R_getf (q := 209) rfl rfl rfl md_73 rfl ?_
          refine R_iload_n (q := 210) rfl rfl rfl ?_
          refine R_if_eq (q := 213) (t := 232) rfl rfl rfl (fun h210 => ?_) (fun h210 => absurd rfl h210)
          refine R_bipush (q := 234) (v := nI 17) rfl rfl (by decide) ?_
          refine R_aload_n (q := 235) rfl rfl rfl ?_
          refine R_getf (q := 238) rfl rfl rfl md_73 rfl ?_
          refine R_iload_n (q := 239) rfl rfl rfl ?_
          refine R_iaload (q := 240) rfl rfl md_99 (by decide) (by first | assumption | exact in_nI (by omega) (by decide)) ?_
          rw [cl_nI (by omega)]
          rw [e99]
          refine R_imul (q := 241) rfl rfl ?_
          rw [pk_mul]
          refine R_aload_n (q := 242) rfl rfl rfl ?_
          refine R_getf (q := 245) rfl rfl rfl md_73 rfl ?_
          refine R_iload_n (q := 246) rfl rfl rfl ?_
          refine R_iaload (q := 247) rfl rfl md_100 (by decide) (by first | assumption | exact in_nI (by omega) (by decide)) ?_
          rw [cl_nI (by omega)]
          rw [e100]
          refine R_iadd (q := 248) rfl rfl ?_
          rw [nI_add]
          refine R_iconst (q := 249) (v := nI 1) rfl rfl (by decide) ?_
          refine R_bastore (q := 250) rfl rfl md_104 (by first | assumption | exact in_nI (by omega) (by decide)) (by first | exact Or.inl rfl | exact Or.inr rfl) ?_
          rw [cl_nI (by omega)]
          rw [md_p104]
          rw [upa_cm (a := 103) (b := 104) (by decide), upa_cm (a := 102) (b := 104) (by decide), upa_cm (a := 101) (b := 104) (by decide), upa_u]
          rw [show ∀ EN : Nat → Int32, upa (upa (upa (upa A 104 EN) 101 BL) 102 LF) 103 CT 104 = EN from fun _ => rfl]
          exact hgo (qch q false (lA k) (sB k) (tC k)) _ BL LF CT _ _ (by rw [hch k hkn, htk, if_pos rfl, decide_eq_false hlv]) (qch_CU hC2 d4 d6) (EOR_U hE d4 d6 d5)
        have hin : ∀ (jj i : Nat) (BL LF CT : Nat → Int32), i + jj = tC k → sB k ≤ i → CTR BL LF CT (hB q) (VI (vB q) (lA k) (sB k) i) (PU (pB q) (lA k) (sB k) i) → mm_R S (d + 1) 185 90 [some (.ref 73), some (.int (nI Z)), some (.int (nI k)), some (.int (zb false)), some (.int (nI i))] [] (mdm M (upa (upa (upa (upa A 104 EN) 101 BL) 102 LF) 103 CT) I) (fun v M' => v = none ∧ ∃ EN BL LF CT, M' = (mdm M (upa (upa (upa (upa A 104 EN) 101 BL) 102 LF) 103 CT) I) ∧ CTR BL LF CT (hB (qcs lv ch lA sB tC (j + 1) k q)) (vB (qcs lv ch lA sB tC (j + 1) k q)) (pB (qcs lv ch lA sB tC (j + 1) k q)) ∧ EOR f (qcs lv ch lA sB tC (j + 1) k q) EN) := by
          intro jj
          induction jj with
          | zero =>
            intro i BL LF CT hi hsi hC2
            have hit : i = tC k := by omega
            subst hit
            refine R_iload (q := 92) rfl rfl rfl ?_
            refine R_aload_n (q := 93) rfl rfl rfl ?_
            refine R_getf (q := 96) rfl rfl rfl md_73 rfl ?_
            refine R_iload_n (q := 97) rfl rfl rfl ?_
            refine R_iaload (q := 98) rfl rfl md_99 (by decide) (by first | assumption | exact in_nI (by omega) (by decide)) ?_
            rw [cl_nI (by omega)]
            rw [e99]
            refine R_icmp_ge (q := 101) (t := 151) rfl rfl rfl (fun h98 => ?_) (fun h98 => absurd (nI_le (by omega) (by omega)) h98)
            exact h151 BL LF CT hC2
          | succ jj ih2 =>
            intro i BL LF CT hi hsi hC2
            refine R_iload (q := 92) rfl rfl rfl ?_
            refine R_aload_n (q := 93) rfl rfl rfl ?_
            refine R_getf (q := 96) rfl rfl rfl md_73 rfl ?_
            refine R_iload_n (q := 97) rfl rfl rfl ?_
            refine R_iaload (q := 98) rfl rfl md_99 (by decide) (by first | assumption | exact in_nI (by omega) (by decide)) ?_
            rw [cl_nI (by omega)]
            rw [e99]
            refine R_icmp_ge (q := 101) (t := 151) rfl rfl rfl (fun h98 => absurd h98 (nI_ge (by omega) (by omega))) (fun h98 => ?_)
            refine R_aload_n (q := 102) rfl rfl rfl ?_
            refine R_iload_n (q := 103) rfl rfl rfl ?_
            refine R_iload_n (q := 104) rfl rfl rfl ?_
            refine R_callv2 (q := 107) rfl rfl rfl rfl md_73 (Nat.le_of_ble_eq_true rfl) rfl ?_
            refine R_mono (m182 (k := k) hn hI6 hkn) (fun v104 M104 hr104 => ?_)
            obtain ⟨rfl, hm104⟩ := hr104
            rw [hm104]
            dsimp only [Option.toList, List.cons_append, List.nil_append]
            rw [htk]
            refine R_if_eq (q := 110) (t := 151) rfl rfl rfl (fun h107 => absurd h107 (by decide)) (fun h107 => ?_)
            refine R_aload_n (q := 111) rfl rfl rfl ?_
            refine R_iload_n (q := 112) rfl rfl rfl ?_
            refine R_if_eq (q := 115) (t := 120) rfl rfl rfl (fun h112 => ?_) (fun h112 => absurd rfl h112)
            refine R_aload_n (q := 121) rfl rfl rfl ?_
            refine R_getf (q := 124) rfl rfl rfl md_73 rfl ?_
            refine R_iload_n (q := 125) rfl rfl rfl ?_
            refine R_iaload (q := 126) rfl rfl md_100 (by decide) (by first | assumption | exact in_nI (by omega) (by decide)) ?_
            rw [cl_nI (by omega)]
            rw [e100]
            refine R_iload_n (q := 127) rfl rfl rfl ?_
            refine R_if_eq (q := 130) (t := 139) rfl rfl rfl (fun h127 => ?_) (fun h127 => absurd rfl h127)
            refine R_iload (q := 141) rfl rfl rfl ?_
            refine R_iload_n (q := 142) rfl rfl rfl ?_
            refine R_callv3 (q := 145) rfl rfl rfl rfl md_73 (Nat.le_of_ble_eq_true rfl) rfl ?_
            refine R_mono (m184_U (x := lA k) (y := i) (by omega) (by omega)) (fun v142 M142 hr142 => ?_)
            obtain ⟨rfl, hm142⟩ := hr142
            rw [hm142]
            dsimp only [Option.toList, List.cons_append, List.nil_append]
            refine R_iinc (q := 148) rfl rfl rfl (nI_i1 i) rfl ?_
            dsimp only [List.set]
            refine R_goto (t := 90) rfl rfl ?_
            refine ih2 (i + 1) BL _ _ (by omega) (by omega) (CTR_U hC2 (by omega) (by omega) (fun y' x' _ _ => ?_) (fun y' x' _ _ => ?_))
            · unfold VI; exact or_dec (by omega)
            · unfold PU; exact or_dec (by omega)
        refine R_aload_n (q := 83) rfl rfl rfl ?_
        refine R_getf (q := 86) rfl rfl rfl md_73 rfl ?_
        refine R_iload_n (q := 87) rfl rfl rfl ?_
        refine R_iaload (q := 88) rfl rfl md_98 (by decide) (by first | assumption | exact in_nI (by omega) (by decide)) ?_
        rw [cl_nI (by omega)]
        rw [e98]
        refine R_istore (q := 90) rfl rfl (Nat.le_of_ble_eq_true rfl) rfl ?_
        dsimp only [List.set]
        exact hin (tC k - sB k) (sB k) BL LF CT (by omega) (Nat.le_refl _) (CTR_cg hC (fun _ _ _ _ => rfl) (fun y x _ _ => by unfold VI; rw [decide_eq_false (by omega), Bool.or_false]) (fun y x _ _ => by unfold PU; rw [decide_eq_false (by omega), Bool.or_false]))
      refine R_iload_n (q := 61) rfl rfl rfl ?_
      refine R_aload_n (q := 62) rfl rfl rfl ?_
      refine R_getf (q := 65) rfl rfl rfl md_73 rfl ?_
      rw [hI6]
      refine R_icmp_ge (q := 68) (t := 256) rfl rfl rfl (fun h65 => absurd h65 (nI_ge (by omega) (by omega))) (fun h65 => ?_)
      refine R_iload_n (q := 69) rfl rfl rfl ?_
      refine R_aload_n (q := 70) rfl rfl rfl ?_
      refine R_getf (q := 73) rfl rfl rfl md_73 rfl ?_
      rw [hI5]
      refine R_icmp_ge (q := 76) (t := 80) rfl rfl rfl (fun h73 => ?_) (fun h73 => ?_)
      · refine R_iconst (q := 81) (v := nI 0) rfl rfl (by decide) ?_
        refine R_istore_n (q := 82) rfl rfl (Nat.le_of_ble_eq_true rfl) rfl ?_
        dsimp only [List.set]
        cases htk : tks n Z k
        · exact hno _ htk
        · first
            | (have w := nI_lt_of (by omega) h73
               exact hyL w htk)
            | (have w := nI_ge_of (by omega) (by omega) h73
               exact hyU w htk)
      · refine R_iconst (q := 77) (v := nI 1) rfl rfl (by decide) ?_
        refine R_goto (t := 81) rfl rfl ?_
        refine R_istore_n (q := 82) rfl rfl (Nat.le_of_ble_eq_true rfl) rfl ?_
        dsimp only [List.set]
        cases htk : tks n Z k
        · exact hno _ htk
        · first
            | (have w := nI_lt_of (by omega) h73
               exact hyL w htk)
            | (have w := nI_ge_of (by omega) (by omega) h73
               exact hyU w htk)
  have hcl2 : ∀ (j i : Nat) (t3 t4 : Option Value), i + j = 272 → mm_R S (d + 1) 185 31 [some (.ref 73), some (.int (nI Z)), some (.int (nI i)), t3, t4] [] (mdm M (upa (upa (upa (upa A 104 (ifl (fun _ => nI 0) (A 104) 289)) 103 (ifl (fun _ => nI 0) (A 103) 289)) 101 (ifl (fun _ => nI 0) (A 101) i)) 102 (ifl (fun _ => nI 0) (A 102) i)) I) (fun v M' => v = none ∧ ∃ EN BL LF CT, M' = (mdm M (upa (upa (upa (upa A 104 EN) 101 BL) 102 LF) 103 CT) I) ∧ CTR BL LF CT (hB (qcs lv ch lA sB tC n 0 q0)) (vB (qcs lv ch lA sB tC n 0 q0)) (pB (qcs lv ch lA sB tC n 0 q0)) ∧ EOR f (qcs lv ch lA sB tC n 0 q0) EN) := by
    intro j
    induction j with
    | zero =>
      intro i t3 t4 hi
      have hii : i = 272 := by omega
      subst hii
      refine R_iload_n (q := 32) rfl rfl rfl ?_
      refine R_sipush (q := 35) (v := nI 272) rfl rfl (by decide) ?_
      refine R_icmp_ge (q := 38) (t := 58) rfl rfl rfl (fun h35 => ?_) (fun h35 => absurd (nI_le (by omega) (by omega)) h35)
      refine R_iconst (q := 59) (v := nI 0) rfl rfl (by decide) ?_
      refine R_istore_n (q := 60) rfl rfl (Nat.le_of_ble_eq_true rfl) rfl ?_
      dsimp only [List.set]
      rw [upa_cm (a := 103) (b := 101) (by decide), upa_cm (a := 103) (b := 102) (by decide)]
      refine hlp n 0 q0 _ _ _ _ _ _ (by omega) ⟨fun y x h1 h2 => ?_, fun y x h1 h2 => ?_, fun y x h1 h2 => ?_⟩ (fun x y hx hy hc => ?_)
      · rw [ifl_lt (by omega), (hq0 y x (by omega) (by omega)).1.1]; rfl
      · rw [ifl_lt (by omega), (hq0 y x (by omega) (by omega)).1.2.1]; rfl
      · rw [ifl_lt (by omega), (hq0 y x (by omega) (by omega)).1.2.2]; rfl
      · rw [ifl_lt (by omega), (hq0 y x hy hx).2 hc]; rfl
    | succ j ih =>
      intro i t3 t4 hi
      refine R_iload_n (q := 32) rfl rfl rfl ?_
      refine R_sipush (q := 35) (v := nI 272) rfl rfl (by decide) ?_
      refine R_icmp_ge (q := 38) (t := 58) rfl rfl rfl (fun h35 => absurd h35 (nI_ge (by omega) (by omega))) (fun h35 => ?_)
      refine R_aload_n (q := 39) rfl rfl rfl ?_
      refine R_getf (q := 42) rfl rfl rfl md_73 rfl ?_
      refine R_iload_n (q := 43) rfl rfl rfl ?_
      refine R_iconst (q := 44) (v := nI 0) rfl rfl (by decide) ?_
      refine R_bastore (q := 45) rfl rfl md_101 (by first | assumption | exact in_nI (by omega) (by decide)) (by first | exact Or.inl rfl | exact Or.inr rfl) ?_
      rw [cl_nI (by omega)]
      rw [md_p101]
      rw [upa_cm (a := 102) (b := 101) (by decide), upa_u, show upa (upa (upa (upa A 104 (ifl (fun _ => nI 0) (A 104) 289)) 103 (ifl (fun _ => nI 0) (A 103) 289)) 101 (ifl (fun _ => nI 0) (A 101) i)) 102 (ifl (fun _ => nI 0) (A 102) i) 101 = (ifl (fun _ => nI 0) (A 101) i) from rfl, ifl_s (n := fun _ => nI 0)]
      refine R_aload_n (q := 46) rfl rfl rfl ?_
      refine R_getf (q := 49) rfl rfl rfl md_73 rfl ?_
      refine R_iload_n (q := 50) rfl rfl rfl ?_
      refine R_iconst (q := 51) (v := nI 0) rfl rfl (by decide) ?_
      refine R_bastore (q := 52) rfl rfl md_102 (by first | assumption | exact in_nI (by omega) (by decide)) (by first | exact Or.inl rfl | exact Or.inr rfl) ?_
      rw [cl_nI (by omega)]
      rw [md_p102]
      rw [upa_u, upa_e, ifl_s (n := fun _ => nI 0)]
      refine R_iinc (q := 55) rfl rfl rfl (nI_i1 i) rfl ?_
      dsimp only [List.set]
      refine R_goto (t := 31) rfl rfl ?_
      exact ih (i + 1) _ _ (by omega)
  have hcl1 : ∀ (j i : Nat) (t3 t4 : Option Value), i + j = 289 → mm_R S (d + 1) 185 2 [some (.ref 73), some (.int (nI Z)), some (.int (nI i)), t3, t4] [] (mdm M (upa (upa A 104 (ifl (fun _ => nI 0) (A 104) i)) 103 (ifl (fun _ => nI 0) (A 103) i)) I) (fun v M' => v = none ∧ ∃ EN BL LF CT, M' = (mdm M (upa (upa (upa (upa A 104 EN) 101 BL) 102 LF) 103 CT) I) ∧ CTR BL LF CT (hB (qcs lv ch lA sB tC n 0 q0)) (vB (qcs lv ch lA sB tC n 0 q0)) (pB (qcs lv ch lA sB tC n 0 q0)) ∧ EOR f (qcs lv ch lA sB tC n 0 q0) EN) := by
    intro j
    induction j with
    | zero =>
      intro i t3 t4 hi
      have hii : i = 289 := by omega
      subst hii
      refine R_iload_n (q := 3) rfl rfl rfl ?_
      refine R_sipush (q := 6) (v := nI 289) rfl rfl (by decide) ?_
      refine R_icmp_ge (q := 9) (t := 29) rfl rfl rfl (fun h6 => ?_) (fun h6 => absurd (nI_le (by omega) (by omega)) h6)
      refine R_iconst (q := 30) (v := nI 0) rfl rfl (by decide) ?_
      refine R_istore_n (q := 31) rfl rfl (Nat.le_of_ble_eq_true rfl) rfl ?_
      dsimp only [List.set]
      have h0 := hcl2 272 0 t3 t4 (by omega)
      rw [ifl_0, ifl_0, show A 101 = upa (upa A 104 (ifl (fun _ => nI 0) (A 104) 289)) 103 (ifl (fun _ => nI 0) (A 103) 289) 101 from rfl, upa_s, show A 102 = upa (upa A 104 (ifl (fun _ => nI 0) (A 104) 289)) 103 (ifl (fun _ => nI 0) (A 103) 289) 102 from rfl, upa_s] at h0
      exact h0
    | succ j ih =>
      intro i t3 t4 hi
      refine R_iload_n (q := 3) rfl rfl rfl ?_
      refine R_sipush (q := 6) (v := nI 289) rfl rfl (by decide) ?_
      refine R_icmp_ge (q := 9) (t := 29) rfl rfl rfl (fun h6 => absurd h6 (nI_ge (by omega) (by omega))) (fun h6 => ?_)
      refine R_aload_n (q := 10) rfl rfl rfl ?_
      refine R_getf (q := 13) rfl rfl rfl md_73 rfl ?_
      refine R_iload_n (q := 14) rfl rfl rfl ?_
      refine R_iconst (q := 15) (v := nI 0) rfl rfl (by decide) ?_
      refine R_bastore (q := 16) rfl rfl md_103 (by first | assumption | exact in_nI (by omega) (by decide)) (by first | exact Or.inl rfl | exact Or.inr rfl) ?_
      rw [cl_nI (by omega)]
      rw [md_p103]
      rw [upa_u, upa_e, ifl_s (n := fun _ => nI 0)]
      refine R_aload_n (q := 17) rfl rfl rfl ?_
      refine R_getf (q := 20) rfl rfl rfl md_73 rfl ?_
      refine R_iload_n (q := 21) rfl rfl rfl ?_
      refine R_iconst (q := 22) (v := nI 0) rfl rfl (by decide) ?_
      refine R_bastore (q := 23) rfl rfl md_104 (by first | assumption | exact in_nI (by omega) (by decide)) (by first | exact Or.inl rfl | exact Or.inr rfl) ?_
      rw [cl_nI (by omega)]
      rw [md_p104]
      rw [upa_cm (a := 103) (b := 104) (by decide), upa_u, show upa (upa A 104 (ifl (fun _ => nI 0) (A 104) i)) 103 (ifl (fun _ => nI 0) (A 103) (i + 1)) 104 = (ifl (fun _ => nI 0) (A 104) i) from rfl, ifl_s (n := fun _ => nI 0)]
      refine R_iinc (q := 26) rfl rfl rfl (nI_i1 i) rfl ?_
      dsimp only [List.set]
      refine R_goto (t := 2) rfl rfl ?_
      exact ih (i + 1) _ _ (by omega)
  refine R_iconst (q := 1) (v := nI 0) rfl rfl (by decide) ?_
  refine R_istore_n (q := 2) rfl rfl (Nat.le_of_ble_eq_true rfl) rfl ?_
  dsimp only [List.set]
  have h0 := hcl1 289 0 none none (by omega)
  rw [ifl_0, ifl_0, upa_s, upa_s] at h0
  exact h0
end P70
