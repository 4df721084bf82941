/-! ===== the matching that the class finds ===== -/
theorem bi_bt {i j : Nat} (hi : i < 32) (hj : j < 32) : bt (bi i) j = decide (j = i) := by
  unfold bi
  rw [b_shl i hi _ hj]
  by_cases h : i ≤ j
  · rw [decide_eq_true h, Bool.true_and, bt_1 _ (by omega)]
    exact decide_eq_decide.mpr (by omega)
  · rw [decide_eq_false h, Bool.false_and, decide_eq_false (by omega)]
theorem nI_ne_m1 {l : Nat} (h : l < 1000) : ¬ nI l = (-1 : Int32) := by
  intro q
  rw [i_eq, i_n _ (by omega), show (-1 : Int32).toInt = -1 from rfl] at q
  omega
section P64
variable {to : Nat → Int32} {am : Int32} {n lv : Nat}
/-- an edge that may be used -/
def ed (to : Nat → Int32) (am : Int32) (i j : Nat) : Prop := bt (to i) j = true ∧ bt am j = true
def POK (n lv : Nat) (p : Nat → Int32) : Prop := ∀ j, lv ≤ j → j < n → p j = (-1) ∨ ∃ l, l < lv ∧ p j = nI l
def cl (n lv : Nat) (p : Nat → Int32) (l : Nat) : Nat := cnr (fun j => decide (p j = nI l)) (n - lv) lv
def unt (n lv : Nat) (tr : Int32) : Nat := cnr (fun j => !(bt tr j)) (n - lv) lv
def EV (to : Nat → Int32) (am : Int32) (n lv : Nat) (p : Nat → Int32) : Prop := ∀ j l, lv ≤ j → j < n → l < lv → p j = nI l → ed to am l j
/-- a closed set -/
def ZC (to : Nat → Int32) (am : Int32) (n lv : Nat) (p : Nat → Int32) (zl zr : Nat → Prop) : Prop := (∀ l j, zl l → lv ≤ j → j < n → ed to am l j → zr j) ∧ ∀ j, zr j → (lv ≤ j ∧ j < n) ∧ ∃ l, l < lv ∧ zl l ∧ p j = nI l
def FL (to : Nat → Int32) (am : Int32) (n lv : Nat) (p : Nat → Int32) (tr tr' : Int32) : Prop := (∀ j, lv ≤ j → j < n → bt tr j = true → bt tr' j = true) ∧ ∀ j, lv ≤ j → j < n → bt tr' j = true → ¬ bt tr j = true → ∃ l, l < lv ∧ p j = nI l ∧ ∀ j2, lv ≤ j2 → j2 < n → ed to am l j2 → bt tr' j2 = true
def TR (to : Nat → Int32) (am : Int32) (n lv : Nat) (p : Nat → Int32) (tr : Int32) (i : Nat) (p' : Nat → Int32) : Prop := POK n lv p' ∧ (∀ j, lv ≤ j → j < n → bt tr j = true → p' j = p j) ∧ (∀ l, l < lv → cl n lv p' l = cl n lv p l + (if l = i then 1 else 0)) ∧ (EV to am n lv p → EV to am n lv p') ∧ ∀ zl zr : Nat → Prop, ZC to am n lv p zl zr → ¬ zl i ∧ ∀ j, zr j → p' j = p j
def DS (to : Nat → Int32) (am : Int32) (n lv : Nat) (q : Nat) (rec : Nat → PS → Bool × PS) : Prop := ∀ (i : Nat) (s : PS), i < lv → POK n lv s.1 → unt n lv s.2 < q → ((rec i s).1 = false → (rec i s).2.1 = s.1 ∧ FL to am n lv s.1 s.2 (rec i s).2.2 ∧ ∀ j, lv ≤ j → j < n → ed to am i j → bt (rec i s).2.2 j = true) ∧ ((rec i s).1 = true → TR to am n lv s.1 s.2 i (rec i s).2.1)
theorem tr_bt {tr : Int32} {j j' : Nat} (hj : j < 32) (hj' : j' < 32) : bt (tr ||| nI 1 <<< (nI j &&& 31)) j' = (bt tr j' || decide (j' = j)) := by
  rw [b_or]
  show (bt tr j' || bt (bi j) j') = _
  rw [bi_bt hj hj']
theorem cnr_dec {a c : Nat → Bool} {z : Nat} (hz : a z = true) (hc : ∀ k, c k = (a k && !(decide (k = z)))) : ∀ j i, i ≤ z → z < i + j → cnr a j i = cnr c j i + 1 := by
  intro j
  induction j with
  | zero => intro i h1 h2; omega
  | succ j ih =>
    intro i h1 h2
    show (if a i = true then 1 else 0) + cnr a j (i + 1) = (if c i = true then 1 else 0) + cnr c j (i + 1) + 1
    by_cases hi : i = z
    · have e1 : c i = false := by rw [hc i, hi, decide_eq_true rfl, Bool.not_true, Bool.and_false]
      have e2 : cnr a j (i + 1) = cnr c j (i + 1) := cnr_cg j (i + 1) (fun k h3 h4 => by rw [hc k, decide_eq_false (by omega), Bool.not_false, Bool.and_true])
      rw [e1, e2, hi, hz, if_pos rfl, if_neg (by decide)]
      omega
    · have e1 : c i = a i := by rw [hc i, decide_eq_false hi, Bool.not_false, Bool.and_true]
      rw [e1, ih (i + 1) (by omega) (by omega)]
      omega
theorem unt_s {tr : Int32} {j : Nat} (hn : n ≤ 14) (h1 : lv ≤ j) (h2 : j < n) (h : ¬ bt tr j = true) : unt n lv (tr ||| nI 1 <<< (nI j &&& 31)) + 1 = unt n lv tr := by
  have e1 : cnr (fun k => !(bt (tr ||| nI 1 <<< (nI j &&& 31)) k)) (n - lv) lv = cnr (fun k => (fun k => !(bt tr k)) k && !(decide (k = j))) (n - lv) lv := cnr_cg _ _ (fun k h3 h4 => by
    show (!(bt (tr ||| nI 1 <<< (nI j &&& 31)) k)) = _
    rw [tr_bt (by omega) (by omega), Bool.not_or])
  unfold unt
  rw [e1]
  exact (cnr_dec (a := fun k => !(bt tr k)) (z := j) (by show (!(bt tr j)) = true; rw [Bool.eq_false_iff.mpr h]; rfl) (fun k => rfl) (n - lv) lv h1 (by omega)).symm
theorem unt_mono {tr tr' : Int32} (h : ∀ j, lv ≤ j → j < n → bt tr j = true → bt tr' j = true) (hl : lv ≤ n) : unt n lv tr' ≤ unt n lv tr := by
  unfold unt
  refine cnr_mn _ _ (fun k h1 h2 h3 => ?_)
  have h3 : (!(bt tr' k)) = true := h3
  show (!(bt tr k)) = true
  cases hq : bt tr k
  · rfl
  · rw [h k h1 (by omega) hq] at h3; exact absurd h3 (by decide)
theorem cl_upd {p : Nat → Int32} {j i l : Nat} (h1 : lv ≤ j) (h2 : j < n) (hi : i < 1000) (hl : l < 1000) : cl n lv (upd p j (nI i)) l + (if p j = nI l then 1 else 0) = cl n lv p l + (if l = i then 1 else 0) := by
  unfold cl
  have key : ∀ k x, x ≤ j → j < x + k → cnr (fun z => decide (upd p j (nI i) z = nI l)) k x + (if p j = nI l then 1 else 0) = cnr (fun z => decide (p z = nI l)) k x + (if l = i then 1 else 0) := by
    intro k
    induction k with
    | zero => intro x h3 h4; omega
    | succ k ih =>
      intro x h3 h4
      show (if decide (upd p j (nI i) x = nI l) = true then 1 else 0) + cnr (fun z => decide (upd p j (nI i) z = nI l)) k (x + 1) + _ = (if decide (p x = nI l) = true then 1 else 0) + cnr (fun z => decide (p z = nI l)) k (x + 1) + _
      by_cases hx : x = j
      · rw [hx, upd_e, cnr_cg (a := fun z => decide (upd p j (nI i) z = nI l)) (c := fun z => decide (p z = nI l)) k (j + 1) (fun z h5 h6 => by show decide _ = decide _; rw [upd_n (by omega)])]
        have e1 : (if decide (nI i = nI l) = true then 1 else 0) = (if l = i then 1 else 0) := by
          by_cases hq : l = i
          · rw [if_pos hq, if_pos (decide_eq_true (by rw [hq]))]
          · rw [if_neg hq, if_neg (fun z => hq (nI_inj (by omega) (by omega) (of_decide_eq_true z)).symm)]
        have e2 : (if decide (p j = nI l) = true then 1 else 0) = (if p j = nI l then 1 else 0) := by
          by_cases hq : p j = nI l
          · rw [if_pos hq, if_pos (decide_eq_true hq)]
          · rw [if_neg hq, if_neg (fun z => hq (of_decide_eq_true z))]
        rw [e1, e2]
        omega
      · rw [upd_n hx]
        have := ih (x + 1) (by omega) (by omega)
        omega
  exact key (n - lv) lv h1 (by omega)
theorem fpl_D {q i : Nat} {rec : Nat → PS → Bool × PS} (hn : n ≤ 14) (hl : lv ≤ n) (hi : i < lv) (hrec : DS to am n lv q rec) : ∀ (k j : Nat) (s : PS), j + k = n → lv ≤ j → POK n lv s.1 → unt n lv s.2 ≤ q → ((fpl to am i rec k j s).1 = false → (fpl to am i rec k j s).2.1 = s.1 ∧ FL to am n lv s.1 s.2 (fpl to am i rec k j s).2.2 ∧ ∀ j', j ≤ j' → j' < n → ed to am i j' → bt (fpl to am i rec k j s).2.2 j' = true) ∧ ((fpl to am i rec k j s).1 = true → TR to am n lv s.1 s.2 i (fpl to am i rec k j s).2.1) := by
  intro k
  induction k with
  | zero =>
    intro j s hj hlj hp hu
    refine ⟨fun _ => ⟨rfl, ⟨fun _ _ _ h => h, fun j' h1 h2 h3 h4 => absurd h3 h4⟩, fun j' h1 h2 => by omega⟩, fun h => absurd h (by show ¬ false = true; decide)⟩
  | succ k ih =>
    intro j s hj hlj hp hu
    obtain ⟨p, tr⟩ := s
    have hjn : j < n := by omega
    have hbit : bt ((to i &&& am) &&& (tr ^^^ (-1))) j = true ↔ ed to am i j ∧ ¬ bt tr j = true := by
      rw [b_and, b_and, b_xor, b_m1 j (by omega), Bool.and_eq_true, Bool.and_eq_true]
      unfold ed
      cases bt tr j <;> simp
    by_cases hb' : bt ((to i &&& am) &&& (tr ^^^ (-1))) j = true
    · obtain ⟨hed, hnt⟩ := hbit.mp hb'
      have hus := unt_s (tr := tr) hn hlj hjn hnt
      obtain ⟨tr1, htr1⟩ : ∃ t, t = tr ||| nI 1 <<< (nI j &&& 31) := ⟨_, rfl⟩
      rw [← htr1] at hus
      have htb : ∀ j', j' < 32 → bt tr1 j' = (bt tr j' || decide (j' = j)) := fun j' h => by rw [htr1]; exact tr_bt (by omega) h
      by_cases hm : p j = (-1)
      · have e1 : fpl to am i rec (k + 1) j (p, tr) = (true, (upd p j (nI i), tr1)) := by
          rw [htr1]
          show (if bt ((to i &&& am) &&& (tr ^^^ (-1))) j = true then (if p j = (-1) then _ else _) else _) = _
          rw [if_pos hb', if_pos hm]
        rw [e1]
        refine ⟨fun h => absurd h (by show ¬ true = false; decide), fun _ => ⟨?_, ?_, ?_, ?_, ?_⟩⟩
        · intro j' h1 h2
          show upd p j (nI i) j' = (-1) ∨ ∃ l, l < lv ∧ upd p j (nI i) j' = nI l
          by_cases hq : j' = j
          · rw [hq, upd_e]; exact Or.inr ⟨i, hi, rfl⟩
          · rw [upd_n hq]; exact hp j' h1 h2
        · intro j' h1 h2 h3
          show upd p j (nI i) j' = p j'
          rw [upd_n (fun q => hnt (by rw [← q]; exact h3))]
        · intro l hl'
          have := cl_upd (n := n) (lv := lv) (p := p) (i := i) (l := l) hlj hjn (by omega) (by omega)
          rw [if_neg (fun z => nI_ne_m1 (by omega) (z.symm.trans hm))] at this
          show cl n lv (upd p j (nI i)) l = _
          omega
        · intro hE j' l h1 h2 h3 h4
          have h4 : upd p j (nI i) j' = nI l := h4
          by_cases hq : j' = j
          · rw [hq, upd_e] at h4
            rw [hq, ← nI_inj (by omega) (by omega) h4]
            exact hed
          · rw [upd_n hq] at h4; exact hE j' l h1 h2 h3 h4
        · intro zl zr hZ
          have hnz : ¬ zr j := fun z => by
            obtain ⟨-, l, l1, -, l3⟩ := hZ.2 j z
            exact nI_ne_m1 (by omega) (l3.symm.trans hm)
          refine ⟨fun z => hnz (hZ.1 i j z hlj hjn hed), fun j' z => ?_⟩
          show upd p j (nI i) j' = p j'
          rw [upd_n (fun q => hnz (by rw [← q]; exact z))]
      · obtain ⟨l, hll, hpl⟩ : ∃ l, l < lv ∧ p j = nI l := by
          rcases hp j hlj hjn with h | h
          · exact absurd h hm
          · exact h
        have hcn : (p j).toNatClampNeg = l := by rw [hpl, cl_nI (by omega)]
        have hD := hrec l (p, tr1) hll hp (by show unt n lv tr1 < q; have : unt n lv (p, tr).2 ≤ q := hu; have : unt n lv tr ≤ q := this; omega)
        by_cases hr : (rec l (p, tr1)).1 = true
        · have e1 : fpl to am i rec (k + 1) j (p, tr) = (true, (upd (rec l (p, tr1)).2.1 j (nI i), (rec l (p, tr1)).2.2)) := by
            rw [← hcn, htr1] at *
            show (if bt ((to i &&& am) &&& (tr ^^^ (-1))) j = true then (if p j = (-1) then _ else if (rec (p j).toNatClampNeg (p, tr ||| nI 1 <<< (nI j &&& 31))).1 = true then _ else _) else _) = _
            rw [if_pos hb', if_neg hm, if_pos hr]
          rw [e1]
          obtain ⟨t1, t2, t3, t4, t5⟩ := hD.2 hr
          have hpj : (rec l (p, tr1)).2.1 j = nI l := by
            rw [t2 j hlj hjn (by show bt tr1 j = true; rw [htb j (by omega), decide_eq_true rfl, Bool.or_true])]
            exact hpl
          refine ⟨fun h => absurd h (by show ¬ true = false; decide), fun _ => ⟨?_, ?_, ?_, ?_, ?_⟩⟩
          · intro j' h1 h2
            show upd (rec l (p, tr1)).2.1 j (nI i) j' = (-1) ∨ ∃ l', l' < lv ∧ upd (rec l (p, tr1)).2.1 j (nI i) j' = nI l'
            by_cases hq : j' = j
            · rw [hq, upd_e]; exact Or.inr ⟨i, hi, rfl⟩
            · rw [upd_n hq]; exact t1 j' h1 h2
          · intro j' h1 h2 h3
            show upd _ j (nI i) j' = p j'
            have hne : j' ≠ j := fun q => hnt (by rw [← q]; exact h3)
            rw [upd_n hne]
            exact t2 j' h1 h2 (by show bt tr1 j' = true; rw [htb j' (by omega)]; have h3 : bt tr j' = true := h3; rw [h3]; rfl)
          · intro l' hl'
            have h5 := cl_upd (n := n) (lv := lv) (p := (rec l (p, tr1)).2.1) (i := i) (l := l') hlj hjn (by omega) (by omega)
            have h6 := t3 l' hl'
            rw [hpj] at h5
            have e7 : (if nI l = nI l' then 1 else 0) = (if l' = l then 1 else 0) := by
              by_cases hq : l' = l
              · rw [if_pos hq, if_pos (by rw [hq])]
              · rw [if_neg hq, if_neg (fun z => hq (nI_inj (by omega) (by omega) z).symm)]
            rw [e7] at h5
            show cl n lv (upd (rec l (p, tr1)).2.1 j (nI i)) l' = cl n lv p l' + _
            have h6 : cl n lv (rec l (p, tr1)).2.1 l' = cl n lv p l' + (if l' = l then 1 else 0) := h6
            omega
          · intro hE j' l' h1 h2 h3 h4
            have h4 : upd (rec l (p, tr1)).2.1 j (nI i) j' = nI l' := h4
            by_cases hq : j' = j
            · rw [hq, upd_e] at h4
              rw [hq, ← nI_inj (by omega) (by omega) h4]
              exact hed
            · rw [upd_n hq] at h4; exact t4 hE j' l' h1 h2 h3 h4
          · intro zl zr hZ
            obtain ⟨g1, g2⟩ := t5 zl zr hZ
            have hnz : ¬ zr j := fun z => by
              obtain ⟨-, l2, a1, a2, a3⟩ := hZ.2 j z
              have : l = l2 := nI_inj (by omega) (by omega) (hpl.symm.trans a3)
              rw [← this] at a2
              exact g1 a2
            refine ⟨fun z => hnz (hZ.1 i j z hlj hjn hed), fun j' z => ?_⟩
            show upd _ j (nI i) j' = p j'
            rw [upd_n (fun q => hnz (by rw [← q]; exact z))]
            exact g2 j' z
        · have hrf : (rec l (p, tr1)).1 = false := Bool.eq_false_iff.mpr hr
          obtain ⟨d1, ⟨d2, d3⟩, d4⟩ := hD.1 hrf
          obtain ⟨tr2, htr2⟩ : ∃ t, t = (rec l (p, tr1)).2.2 := ⟨_, rfl⟩
          have hpair : (rec l (p, tr1)).2 = (p, tr2) := by rw [htr2]; exact Prod.ext d1 rfl
          rw [← htr2] at d2 d3 d4
          have e1 : fpl to am i rec (k + 1) j (p, tr) = fpl to am i rec k (j + 1) (p, tr2) := by
            rw [← hpair, ← hcn, htr1] at *
            show (if bt ((to i &&& am) &&& (tr ^^^ (-1))) j = true then (if p j = (-1) then _ else if (rec (p j).toNatClampNeg (p, tr ||| nI 1 <<< (nI j &&& 31))).1 = true then _ else _) else _) = _
            rw [if_pos hb', if_neg hm, if_neg hr]
          rw [e1]
          have hsub : ∀ j', lv ≤ j' → j' < n → bt tr j' = true → bt tr2 j' = true := fun j' h1 h2 h3 => d2 j' h1 h2 (by show bt tr1 j' = true; rw [htb j' (by omega), h3]; rfl)
          have hj2 : bt tr2 j = true := d2 j hlj hjn (by show bt tr1 j = true; rw [htb j (by omega), decide_eq_true rfl, Bool.or_true])
          have hI := ih (j + 1) (p, tr2) (by omega) (by omega) hp (by show unt n lv tr2 ≤ q; have := unt_mono (n := n) hsub hl; have : unt n lv (p, tr).2 ≤ q := hu; have : unt n lv tr ≤ q := this; omega)
          refine ⟨fun h => ?_, fun h => ?_⟩
          · obtain ⟨f1, ⟨f2, f3⟩, f4⟩ := hI.1 h
            refine ⟨f1, ⟨fun j' h1 h2 h3 => f2 j' h1 h2 (hsub j' h1 h2 h3), fun j' h1 h2 h3 h4 => ?_⟩, fun j' h1 h2 h3 => ?_⟩
            · by_cases h5 : bt tr2 j' = true
              · by_cases h6 : j' = j
                · rw [h6]
                  exact ⟨l, hll, hpl, fun j2 a1 a2 a3 => f2 j2 a1 a2 (d4 j2 a1 a2 a3)⟩
                · obtain ⟨l2, b1, b2, b3⟩ := d3 j' h1 h2 h5 (by show ¬ bt tr1 j' = true; rw [htb j' (by omega), decide_eq_false h6, Bool.or_false]; exact h4)
                  exact ⟨l2, b1, b2, fun j2 a1 a2 a3 => f2 j2 a1 a2 (b3 j2 a1 a2 a3)⟩
              · exact f3 j' h1 h2 h3 h5
            · by_cases h6 : j' = j
              · rw [h6]; exact f2 j hlj hjn hj2
              · exact f4 j' (by omega) h2 h3
          · obtain ⟨t1, t2, t3, t4, t5⟩ := hI.2 h
            exact ⟨t1, fun j' h1 h2 h3 => t2 j' h1 h2 (hsub j' h1 h2 h3), t3, t4, t5⟩
    · have e1 : fpl to am i rec (k + 1) j (p, tr) = fpl to am i rec k (j + 1) (p, tr) := if_neg hb'
      rw [e1]
      have hI := ih (j + 1) (p, tr) (by omega) (by omega) hp hu
      refine ⟨fun h => ?_, hI.2⟩
      obtain ⟨f1, f2, f4⟩ := hI.1 h
      refine ⟨f1, f2, fun j' h1 h2 h3 => ?_⟩
      by_cases h6 : j' = j
      · rw [h6] at h3 ⊢
        have : bt tr j = true := Classical.byContradiction (fun z => hb' (hbit.mpr ⟨h3, z⟩))
        exact f2.1 j hlj hjn this
      · exact f4 j' (by omega) h2 h3
theorem fp_D (hn : n ≤ 14) (hl : lv ≤ n) : ∀ q, DS to am n lv q (fp to am n lv q) := by
  intro q
  induction q with
  | zero => intro i s _ _ h; exact absurd h (Nat.not_lt_zero _)
  | succ q ih =>
    intro i s hi hp hu
    exact fpl_D hn hl hi ih (n - lv) lv s (by omega) (Nat.le_refl _) hp (by omega)
end P64
