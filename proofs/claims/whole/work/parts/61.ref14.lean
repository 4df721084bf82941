/-! ===== the reference's own calls, XIV: corners and chords ===== -/
def hZ (f : Nat → Int32) (x y : Int) : Bool := decide ((0 ≤ x ∧ x < 16) ∧ 0 ≤ y ∧ y < 16) && bt (f y.toNat) x.toNat
theorem hZ_H {f : Nat → Int32} {x y : Int} : hZ f x y = true ↔ Hp f x y := by
  unfold hZ Hp
  rw [Bool.and_eq_true, decide_eq_true_iff]
  exact ⟨fun h => ⟨h.1.1, h.1.2, h.2⟩, fun h => ⟨⟨h.1, h.2.1⟩, h.2.2⟩⟩
theorem hs_Z {f : Nat → Int32} {X Y : Int32} {x y : Int} (hx : X.toInt = x) (hy : Y.toInt = y) : hs f X Y = hZ f x y := Bool.eq_iff_iff.mpr (by rw [hs_H, hZ_H, hx, hy])
def b2 (b : Bool) : Nat := if b then 1 else 0
def crn (f : Nat → Int32) (x y : Nat) : Bool := decide (b2 (hZ f x y) + b2 (hZ f (x - 1) y) + b2 (hZ f x (y - 1)) + b2 (hZ f (x - 1) (y - 1)) = 3)
def innr (f : Nat → Int32) (lv : Bool) (c t : Nat) : Bool := if lv then hZ f t c && hZ f t (c - 1) else hZ f c t && hZ f (c - 1) t
def corr (f : Nat → Int32) (lv : Bool) (c t : Nat) : Bool := if lv then crn f t c else crn f c t
theorem crn_in {f : Nat → Int32} {lv : Bool} {c t : Nat} (ht : 1 ≤ t) (h1 : innr f lv c (t - 1) = true) (h2 : innr f lv c t = true) : corr f lv c t = false := by
  have e1 : ((t - 1 : Nat) : Int) = (t : Int) - 1 := by omega
  unfold corr innr at *
  cases lv
  · rw [if_neg (by decide)] at h1 h2 ⊢
    rw [Bool.and_eq_true, e1] at h1
    rw [Bool.and_eq_true] at h2
    unfold crn
    rw [h1.1, h1.2, h2.1, h2.2]
    rfl
  · rw [if_pos rfl] at h1 h2 ⊢
    rw [Bool.and_eq_true, e1] at h1
    rw [Bool.and_eq_true] at h2
    unfold crn
    rw [h1.1, h1.2, h2.1, h2.2]
    rfl
theorem re_cg {g g' : Nat → Bool} : ∀ n s, (∀ t, s ≤ t → t < s + n → g t = g' t) → re g n s = re g' n s := by
  intro n
  induction n with
  | zero => intro s _; rfl
  | succ n ih =>
    intro s h
    show (if g s = true then re g n (s + 1) else s) = (if g' s = true then re g' n (s + 1) else s)
    rw [h s (by omega) (by omega), ih (s + 1) (fun t h1 h2 => h t (by omega) (by omega))]
section P61
variable {S : mm_S} {d : Nat} {M : mm_M} {A : AS} {I : Nat → Int32} {sh : Nat → Nat → Int32} {o : OS} {l : LYS} {pi fa tp : IS}
set_option maxRecDepth 8000 in
theorem m173 {s x y : Nat} (hc : CRl A sh) (hs6 : s < 6) (hx : x ≤ 16) (hy : y ≤ 16) : mm_R S (d + 2) 173 0 (mm_en 173 [.ref 73, .int (nI s), .int (nI x), .int (nI y)]) [] (mdm M A I) (fun v M' => v = some (.int (zb (crn (sh s) x y))) ∧ M' = mdm M A I) := by
  show mm_R S (d + 2) 173 0 [some (.ref 73), some (.int (nI s)), some (.int (nI x)), some (.int (nI y))] [] (mdm M A I) _
  have ex : (nI x).toInt = (x : Int) := i_n _ (by omega)
  have ey : (nI y).toInt = (y : Int) := i_n _ (by omega)
  have ex1 : (nI x - nI 1).toInt = (x : Int) - 1 := pk_sub_toInt (by omega) (by omega)
  have ey1 : (nI y - nI 1).toInt = (y : Int) - 1 := pk_sub_toInt (by omega) (by omega)
  refine R_aload_n (q := 1) rfl rfl rfl ?_
  refine R_iload_n (q := 2) rfl rfl rfl ?_
  refine R_iload_n (q := 3) rfl rfl rfl ?_
  refine R_iload_n (q := 4) rfl rfl rfl ?_
  refine R_callv3 (q := 7) rfl rfl rfl rfl md_73 (Nat.le_of_ble_eq_true rfl) rfl ?_
  refine R_mono (m149 hc hs6) (fun v4 M4 hr4 => ?_)
  obtain ⟨rfl, hm4⟩ := hr4
  rw [hm4]
  dsimp only [Option.toList, List.cons_append, List.nil_append]
  rw [hs_Z ex ey]
  refine R_calls1 (q := 10) rfl rfl rfl rfl (Nat.le_of_ble_eq_true rfl) rfl ?_
  refine R_mono (m172) (fun v7 M7 hr7 => ?_)
  obtain ⟨rfl, hm7⟩ := hr7
  rw [hm7]
  dsimp only [Option.toList, List.cons_append, List.nil_append]
  refine R_aload_n (q := 11) rfl rfl rfl ?_
  refine R_iload_n (q := 12) rfl rfl rfl ?_
  refine R_iload_n (q := 13) rfl rfl rfl ?_
  refine R_iconst (q := 14) (v := nI 1) rfl rfl (by decide) ?_
  refine R_isub (q := 15) rfl rfl ?_
  refine R_iload_n (q := 16) rfl rfl rfl ?_
  refine R_callv3 (q := 19) rfl rfl rfl rfl md_73 (Nat.le_of_ble_eq_true rfl) rfl ?_
  refine R_mono (m149 hc hs6) (fun v16 M16 hr16 => ?_)
  obtain ⟨rfl, hm16⟩ := hr16
  rw [hm16]
  dsimp only [Option.toList, List.cons_append, List.nil_append]
  rw [hs_Z ex1 ey]
  refine R_calls1 (q := 22) rfl rfl rfl rfl (Nat.le_of_ble_eq_true rfl) rfl ?_
  refine R_mono (m172) (fun v19 M19 hr19 => ?_)
  obtain ⟨rfl, hm19⟩ := hr19
  rw [hm19]
  dsimp only [Option.toList, List.cons_append, List.nil_append]
  refine R_iadd (q := 23) rfl rfl ?_
  refine R_aload_n (q := 24) rfl rfl rfl ?_
  refine R_iload_n (q := 25) rfl rfl rfl ?_
  refine R_iload_n (q := 26) rfl rfl rfl ?_
  refine R_iload_n (q := 27) rfl rfl rfl ?_
  refine R_iconst (q := 28) (v := nI 1) rfl rfl (by decide) ?_
  refine R_isub (q := 29) rfl rfl ?_
  refine R_callv3 (q := 32) rfl rfl rfl rfl md_73 (Nat.le_of_ble_eq_true rfl) rfl ?_
  refine R_mono (m149 hc hs6) (fun v29 M29 hr29 => ?_)
  obtain ⟨rfl, hm29⟩ := hr29
  rw [hm29]
  dsimp only [Option.toList, List.cons_append, List.nil_append]
  rw [hs_Z ex ey1]
  refine R_calls1 (q := 35) rfl rfl rfl rfl (Nat.le_of_ble_eq_true rfl) rfl ?_
  refine R_mono (m172) (fun v32 M32 hr32 => ?_)
  obtain ⟨rfl, hm32⟩ := hr32
  rw [hm32]
  dsimp only [Option.toList, List.cons_append, List.nil_append]
  refine R_iadd (q := 36) rfl rfl ?_
  refine R_aload_n (q := 37) rfl rfl rfl ?_
  refine R_iload_n (q := 38) rfl rfl rfl ?_
  refine R_iload_n (q := 39) rfl rfl rfl ?_
  refine R_iconst (q := 40) (v := nI 1) rfl rfl (by decide) ?_
  refine R_isub (q := 41) rfl rfl ?_
  refine R_iload_n (q := 42) rfl rfl rfl ?_
  refine R_iconst (q := 43) (v := nI 1) rfl rfl (by decide) ?_
  refine R_isub (q := 44) rfl rfl ?_
  refine R_callv3 (q := 47) rfl rfl rfl rfl md_73 (Nat.le_of_ble_eq_true rfl) rfl ?_
  refine R_mono (m149 hc hs6) (fun v44 M44 hr44 => ?_)
  obtain ⟨rfl, hm44⟩ := hr44
  rw [hm44]
  dsimp only [Option.toList, List.cons_append, List.nil_append]
  rw [hs_Z ex1 ey1]
  refine R_calls1 (q := 50) rfl rfl rfl rfl (Nat.le_of_ble_eq_true rfl) rfl ?_
  refine R_mono (m172) (fun v47 M47 hr47 => ?_)
  obtain ⟨rfl, hm47⟩ := hr47
  rw [hm47]
  dsimp only [Option.toList, List.cons_append, List.nil_append]
  refine R_iadd (q := 51) rfl rfl ?_
  refine R_iconst (q := 52) (v := nI 3) rfl rfl (by decide) ?_
  refine R_icmp_ne (q := 55) (t := 59) rfl rfl rfl (fun h52 => ?_) (fun h52 => ?_)
  · refine R_iconst (q := 60) (v := nI 0) rfl rfl (by decide) ?_
    refine R_zreturn rfl rfl (by first | exact Or.inl rfl | exact Or.inr rfl | assumption) ?_
    refine ⟨congrArg some (congrArg Value.int ?_), rfl⟩
    unfold crn
    revert h52
    generalize hZ (sh s) x y = a
    generalize hZ (sh s) (x - 1) y = b
    generalize hZ (sh s) x (y - 1) = c
    generalize hZ (sh s) (x - 1) (y - 1) = e
    cases a <;> cases b <;> cases c <;> cases e <;> decide
  · refine R_iconst (q := 56) (v := nI 1) rfl rfl (by decide) ?_
    refine R_goto (t := 60) rfl rfl ?_
    refine R_zreturn rfl rfl (by first | exact Or.inl rfl | exact Or.inr rfl | assumption) ?_
    refine ⟨congrArg some (congrArg Value.int ?_), rfl⟩
    unfold crn
    revert h52
    generalize hZ (sh s) x y = a
    generalize hZ (sh s) (x - 1) y = b
    generalize hZ (sh s) x (y - 1) = c
    generalize hZ (sh s) (x - 1) (y - 1) = e
    cases a <;> cases b <;> cases c <;> cases e <;> decide
set_option maxRecDepth 8000 in
theorem m174 {s x y : Nat} {lv : Bool} (hc : CRl A sh) (hs6 : s < 6) (hx : x ≤ 16) (hy : y ≤ 16) : mm_R S (d + 2) 174 0 (mm_en 174 [.ref 73, .int (nI s), .int (nI x), .int (nI y), .int (zb lv)]) [] (mdm M A I) (fun v M' => v = some (.int (zb (if lv then hZ (sh s) x y && hZ (sh s) x (y - 1) else hZ (sh s) x y && hZ (sh s) (x - 1) y))) ∧ M' = mdm M A I) := by
  show mm_R S (d + 2) 174 0 [some (.ref 73), some (.int (nI s)), some (.int (nI x)), some (.int (nI y)), some (.int (zb lv))] [] (mdm M A I) _
  have ex : (nI x).toInt = (x : Int) := i_n _ (by omega)
  have ey : (nI y).toInt = (y : Int) := i_n _ (by omega)
  have ex1 : (nI x - nI 1).toInt = (x : Int) - 1 := pk_sub_toInt (by omega) (by omega)
  have ey1 : (nI y - nI 1).toInt = (y : Int) - 1 := pk_sub_toInt (by omega) (by omega)
  refine R_aload_n (q := 1) rfl rfl rfl ?_
  refine R_iload_n (q := 2) rfl rfl rfl ?_
  refine R_iload_n (q := 3) rfl rfl rfl ?_
  refine R_iload_n (q := 4) rfl rfl rfl ?_
  refine R_callv3 (q := 7) rfl rfl rfl rfl md_73 (Nat.le_of_ble_eq_true rfl) rfl ?_
  refine R_mono (m149 hc hs6) (fun v4 M4 hr4 => ?_)
  obtain ⟨rfl, hm4⟩ := hr4
  rw [hm4]
  dsimp only [Option.toList, List.cons_append, List.nil_append]
  rw [hs_Z ex ey]
  refine R_if_eq (q := 10) (t := 46) rfl rfl rfl (fun h7 => ?_) (fun h7 => ?_)
  · refine R_iconst (q := 47) (v := nI 0) rfl rfl (by decide) ?_
    refine R_zreturn rfl rfl (by first | exact Or.inl rfl | exact Or.inr rfl | assumption) ?_
    refine ⟨congrArg some (congrArg Value.int ?_), rfl⟩
    first
      | (rw [zb_eq0.mp h7]; cases lv <;> rfl)
      | (rw [zb_ne0.mp h7, zb_ne0.mp h12, zb_eq0.mp h24]; rfl)
      | (rw [zb_ne0.mp h7, zb_ne0.mp h12, zb_ne0.mp h24]; rfl)
      | (rw [zb_ne0.mp h7, zb_eq0.mp h12, zb_eq0.mp h39]; rfl)
      | (rw [zb_ne0.mp h7, zb_eq0.mp h12, zb_ne0.mp h39]; rfl)
  · refine R_iload (q := 12) rfl rfl rfl ?_
    refine R_if_eq (q := 15) (t := 30) rfl rfl rfl (fun h12 => ?_) (fun h12 => ?_)
    · refine R_aload_n (q := 31) rfl rfl rfl ?_
      refine R_iload_n (q := 32) rfl rfl rfl ?_
      refine R_iload_n (q := 33) rfl rfl rfl ?_
      refine R_iconst (q := 34) (v := nI 1) rfl rfl (by decide) ?_
      refine R_isub (q := 35) rfl rfl ?_
      refine R_iload_n (q := 36) rfl rfl rfl ?_
      refine R_callv3 (q := 39) rfl rfl rfl rfl md_73 (Nat.le_of_ble_eq_true rfl) rfl ?_
      refine R_mono (m149 hc hs6) (fun v36 M36 hr36 => ?_)
      obtain ⟨rfl, hm36⟩ := hr36
      rw [hm36]
      dsimp only [Option.toList, List.cons_append, List.nil_append]
      rw [hs_Z ex1 ey]
      refine R_if_eq (q := 42) (t := 46) rfl rfl rfl (fun h39 => ?_) (fun h39 => ?_)
      · refine R_iconst (q := 47) (v := nI 0) rfl rfl (by decide) ?_
        refine R_zreturn rfl rfl (by first | exact Or.inl rfl | exact Or.inr rfl | assumption) ?_
        refine ⟨congrArg some (congrArg Value.int ?_), rfl⟩
        first
          | (rw [zb_eq0.mp h7]; cases lv <;> rfl)
          | (rw [zb_ne0.mp h7, zb_ne0.mp h12, zb_eq0.mp h24]; rfl)
          | (rw [zb_ne0.mp h7, zb_ne0.mp h12, zb_ne0.mp h24]; rfl)
          | (rw [zb_ne0.mp h7, zb_eq0.mp h12, zb_eq0.mp h39]; rfl)
          | (rw [zb_ne0.mp h7, zb_eq0.mp h12, zb_ne0.mp h39]; rfl)
      · refine R_iconst (q := 43) (v := nI 1) rfl rfl (by decide) ?_
        refine R_goto (t := 47) rfl rfl ?_
        refine R_zreturn rfl rfl (by first | exact Or.inl rfl | exact Or.inr rfl | assumption) ?_
        refine ⟨congrArg some (congrArg Value.int ?_), rfl⟩
        first
          | (rw [zb_eq0.mp h7]; cases lv <;> rfl)
          | (rw [zb_ne0.mp h7, zb_ne0.mp h12, zb_eq0.mp h24]; rfl)
          | (rw [zb_ne0.mp h7, zb_ne0.mp h12, zb_ne0.mp h24]; rfl)
          | (rw [zb_ne0.mp h7, zb_eq0.mp h12, zb_eq0.mp h39]; rfl)
          | (rw [zb_ne0.mp h7, zb_eq0.mp h12, zb_ne0.mp h39]; rfl)
    · refine R_aload_n (q := 16) rfl rfl rfl ?_
      refine R_iload_n (q := 17) rfl rfl rfl ?_
      refine R_iload_n (q := 18) rfl rfl rfl ?_
      refine R_iload_n (q := 19) rfl rfl rfl ?_
      refine R_iconst (q := 20) (v := nI 1) rfl rfl (by decide) ?_
      refine R_isub (q := 21) rfl rfl ?_
      refine R_callv3 (q := 24) rfl rfl rfl rfl md_73 (Nat.le_of_ble_eq_true rfl) rfl ?_
      refine R_mono (m149 hc hs6) (fun v21 M21 hr21 => ?_)
      obtain ⟨rfl, hm21⟩ := hr21
      rw [hm21]
      dsimp only [Option.toList, List.cons_append, List.nil_append]
      rw [hs_Z ex ey1]
      refine R_if_eq (q := 27) (t := 46) rfl rfl rfl (fun h24 => ?_) (fun h24 => ?_)
      · refine R_iconst (q := 47) (v := nI 0) rfl rfl (by decide) ?_
        refine R_zreturn rfl rfl (by first | exact Or.inl rfl | exact Or.inr rfl | assumption) ?_
        refine ⟨congrArg some (congrArg Value.int ?_), rfl⟩
        first
          | (rw [zb_eq0.mp h7]; cases lv <;> rfl)
          | (rw [zb_ne0.mp h7, zb_ne0.mp h12, zb_eq0.mp h24]; rfl)
          | (rw [zb_ne0.mp h7, zb_ne0.mp h12, zb_ne0.mp h24]; rfl)
          | (rw [zb_ne0.mp h7, zb_eq0.mp h12, zb_eq0.mp h39]; rfl)
          | (rw [zb_ne0.mp h7, zb_eq0.mp h12, zb_ne0.mp h39]; rfl)
      · refine R_goto (t := 42) rfl rfl ?_
        refine R_iconst (q := 43) (v := nI 1) rfl rfl (by decide) ?_
        refine R_goto (t := 47) rfl rfl ?_
        refine R_zreturn rfl rfl (by first | exact Or.inl rfl | exact Or.inr rfl | assumption) ?_
        refine ⟨congrArg some (congrArg Value.int ?_), rfl⟩
        first
          | (rw [zb_eq0.mp h7]; cases lv <;> rfl)
          | (rw [zb_ne0.mp h7, zb_ne0.mp h12, zb_eq0.mp h24]; rfl)
          | (rw [zb_ne0.mp h7, zb_ne0.mp h12, zb_ne0.mp h24]; rfl)
          | (rw [zb_ne0.mp h7, zb_eq0.mp h12, zb_eq0.mp h39]; rfl)
          | (rw [zb_ne0.mp h7, zb_eq0.mp h12, zb_ne0.mp h39]; rfl)
set_option maxRecDepth 8000 in
theorem m176_L {s t0 ln c : Nat} {F T B : Nat → Int32} (hc : CRl A sh) (hs6 : s < 6) (ht : t0 ≤ 16) (hln : ln ≤ 16) (hcc : c < 289) : mm_R S (d + 3) 176 0 (mm_en 176 [.ref 73, .int (nI s), .int (nI t0), .int (nI ln), .int (zb true)]) [] (mdm M (upa (upa (upa A 98 F) 99 T) 100 B) (upd I 36 (nI c))) (fun v M' => v = none ∧ M' = if corr (sh s) true ln t0 = true ∧ t0 < (re (innr (sh s) true ln) (16 - t0) t0) ∧ corr (sh s) true ln (re (innr (sh s) true ln) (16 - t0) t0) = true then (mdm M (upa (upa (upa A 98 (upd F c (nI t0))) 99 (upd T c (nI (re (innr (sh s) true ln) (16 - t0) t0)))) 100 (upd B c (nI ln))) (upd I 36 (nI (c + 1)))) else (mdm M (upa (upa (upa A 98 F) 99 T) 100 B) (upd I 36 (nI c)))) := by
  show mm_R S (d + 3) 176 0 [some (.ref 73), some (.int (nI s)), some (.int (nI t0)), some (.int (nI ln)), some (.int (zb true)), none, none, none] [] (mdm M (upa (upa (upa A 98 F) 99 T) 100 B) (upd I 36 (nI c))) _
  have rr1 : CRl (upa (upa (upa A 98 F) 99 T) 100 B) sh := hc
  have h142 : ∀ (e : Nat) (on : Option Value), corr (sh s) true ln t0 = true → e = (re (innr (sh s) true ln) (16 - t0) t0) → mm_R S (d + 3) 176 142 [some (.ref 73), some (.int (nI s)), some (.int (nI t0)), some (.int (nI ln)), some (.int (zb true)), some (.int (nI t0)), some (.int (nI e)), on] [] (mdm M (upa (upa (upa A 98 F) 99 T) 100 B) (upd I 36 (nI c))) (fun v M' => v = none ∧ M' = if corr (sh s) true ln t0 = true ∧ t0 < (re (innr (sh s) true ln) (16 - t0) t0) ∧ corr (sh s) true ln (re (innr (sh s) true ln) (16 - t0) t0) = true then (mdm M (upa (upa (upa A 98 (upd F c (nI t0))) 99 (upd T c (nI (re (innr (sh s) true ln) (16 - t0) t0)))) 100 (upd B c (nI ln))) (upd I 36 (nI (c + 1)))) else (mdm M (upa (upa (upa A 98 F) 99 T) 100 B) (upd I 36 (nI c)))) := by
    intro e on hst he
    have heb : t0 ≤ e ∧ e ≤ 16 := by rw [he]; have := re_ge (innr (sh s) true ln) (16 - t0) t0; omega
    rw [← he]
    refine R_iload (q := 144) rfl rfl rfl ?_
    refine R_iload (q := 146) rfl rfl rfl ?_
    refine R_icmp_le (q := 149) (t := 230) rfl rfl rfl (fun h146 => ?_) (fun h146 => ?_)
    · refine R_return rfl rfl ?_
      first
        | (have z1 := nI_lt_of (by omega) h146
           have z2 := zb_ne0.mp h162
           exact ⟨rfl, (if_pos ⟨hst, z1, z2⟩).symm⟩)
        | (refine ⟨rfl, (if_neg (fun q => ?_)).symm⟩
           first
             | exact nI_ge q.2.1 (by omega) h146
             | (have z := zb_eq0.mp h162
                have q3 : crn (sh s) e ln = true := q.2.2
                rw [z] at q3
                exact absurd q3 (by decide)))
    · refine R_iload (q := 151) rfl rfl rfl ?_
      refine R_if_eq (q := 154) (t := 168) rfl rfl rfl (fun h151 => absurd h151 (by decide)) (fun h151 => ?_)
      refine R_aload_n (q := 155) rfl rfl rfl ?_
      refine R_iload_n (q := 156) rfl rfl rfl ?_
      refine R_iload (q := 158) rfl rfl rfl ?_
      refine R_iload_n (q := 159) rfl rfl rfl ?_
      refine R_callv3 (q := 162) rfl rfl rfl rfl md_73 (Nat.le_of_ble_eq_true rfl) rfl ?_
      refine R_mono (m173 (x := e) (y := ln) rr1 hs6 (by omega) (by omega)) (fun v159 M159 hr159 => ?_)
      obtain ⟨rfl, hm159⟩ := hr159
      rw [hm159]
      dsimp only [Option.toList, List.cons_append, List.nil_append]
      refine R_if_eq (q := 165) (t := 230) rfl rfl rfl (fun h162 => ?_) (fun h162 => ?_)
      · refine R_return rfl rfl ?_
        first
          | (have z1 := nI_lt_of (by omega) h146
             have z2 := zb_ne0.mp h162
             exact ⟨rfl, (if_pos ⟨hst, z1, z2⟩).symm⟩)
          | (refine ⟨rfl, (if_neg (fun q => ?_)).symm⟩
             first
               | exact nI_ge q.2.1 (by omega) h146
               | (have z := zb_eq0.mp h162
                  have q3 : crn (sh s) e ln = true := q.2.2
                  rw [z] at q3
                  exact absurd q3 (by decide)))
      · refine R_goto (t := 179) rfl rfl ?_
        refine R_aload_n (q := 180) rfl rfl rfl ?_
        refine R_getf (q := 183) rfl rfl rfl md_73 rfl ?_
        refine R_aload_n (q := 184) rfl rfl rfl ?_
        refine R_getf (q := 187) rfl rfl rfl md_73 rfl ?_
        rw [upd_e]
        refine R_iload (q := 189) rfl rfl rfl ?_
        refine R_iastore (q := 190) rfl rfl md_98 (by first | assumption | exact in_nI (by omega) (by decide)) ?_
        rw [cl_nI (by omega)]
        rw [md_p98]
        rw [upa_cm (a := 100) (b := 98) (by decide), upa_cm (a := 99) (b := 98) (by decide), upa_u, show upa (upa (upa A 98 F) 99 T) 100 B 98 = F from rfl]
        refine R_aload_n (q := 191) rfl rfl rfl ?_
        refine R_getf (q := 194) rfl rfl rfl md_73 rfl ?_
        refine R_aload_n (q := 195) rfl rfl rfl ?_
        refine R_getf (q := 198) rfl rfl rfl md_73 rfl ?_
        rw [upd_e]
        refine R_iload (q := 200) rfl rfl rfl ?_
        refine R_iastore (q := 201) rfl rfl md_99 (by first | assumption | exact in_nI (by omega) (by decide)) ?_
        rw [cl_nI (by omega)]
        rw [md_p99]
        rw [upa_cm (a := 100) (b := 99) (by decide), upa_u, show upa (upa (upa A 98 (upd F c (nI t0))) 99 T) 100 B 99 = T from rfl]
        refine R_aload_n (q := 202) rfl rfl rfl ?_
        refine R_getf (q := 205) rfl rfl rfl md_73 rfl ?_
        refine R_aload_n (q := 206) rfl rfl rfl ?_
        refine R_getf (q := 209) rfl rfl rfl md_73 rfl ?_
        rw [upd_e]
        refine R_iload (q := 211) rfl rfl rfl ?_
        refine R_if_eq (q := 214) (t := 218) rfl rfl rfl (fun h211 => absurd h211 (by decide)) (fun h211 => ?_)
        refine R_iload_n (q := 215) rfl rfl rfl ?_
        refine R_goto (t := 219) rfl rfl ?_
        refine R_iastore (q := 220) rfl rfl md_100 (by first | assumption | exact in_nI (by omega) (by decide)) ?_
        rw [cl_nI (by omega)]
        rw [md_p100]
        rw [upa_u, upa_e]
        refine R_aload_n (q := 221) rfl rfl rfl ?_
        first | refine R_dupa (q := 222) rfl rfl ?_ | refine R_dupi (q := 222) rfl rfl ?_
        refine R_getf (q := 225) rfl rfl rfl md_73 rfl ?_
        rw [upd_e]
        refine R_iconst (q := 226) (v := nI 1) rfl rfl (by decide) ?_
        refine R_iadd (q := 227) rfl rfl ?_
        rw [nI_add]
        refine R_putf (q := 230) rfl rfl rfl md_73 (Nat.le_of_ble_eq_true rfl) rfl (fun hf => absurd hf (by decide)) rfl ?_
        dsimp only [List.set]
        rw [md_f36]
        rw [upd_uu]
        refine R_return rfl rfl ?_
        first
          | (have z1 := nI_lt_of (by omega) h146
             have z2 := zb_ne0.mp h162
             exact ⟨rfl, (if_pos ⟨hst, z1, z2⟩).symm⟩)
          | (refine ⟨rfl, (if_neg (fun q => ?_)).symm⟩
             first
               | exact nI_ge q.2.1 (by omega) h146
               | (have z := zb_eq0.mp h162
                  have q3 : crn (sh s) e ln = true := q.2.2
                  rw [z] at q3
                  exact absurd q3 (by decide)))
  have hlp : ∀ (j t : Nat) (on : Option Value), t + j = 16 → t0 ≤ t → (t0 < t → innr (sh s) true ln (t - 1) = true) → corr (sh s) true ln t0 = true → re (innr (sh s) true ln) j t = (re (innr (sh s) true ln) (16 - t0) t0) → mm_R S (d + 3) 176 30 [some (.ref 73), some (.int (nI s)), some (.int (nI t0)), some (.int (nI ln)), some (.int (zb true)), some (.int (nI t0)), some (.int (nI t)), some (.int (nI 1))] [] (mdm M (upa (upa (upa A 98 F) 99 T) 100 B) (upd I 36 (nI c))) (fun v M' => v = none ∧ M' = if corr (sh s) true ln t0 = true ∧ t0 < (re (innr (sh s) true ln) (16 - t0) t0) ∧ corr (sh s) true ln (re (innr (sh s) true ln) (16 - t0) t0) = true then (mdm M (upa (upa (upa A 98 (upd F c (nI t0))) 99 (upd T c (nI (re (innr (sh s) true ln) (16 - t0) t0)))) 100 (upd B c (nI ln))) (upd I 36 (nI (c + 1)))) else (mdm M (upa (upa (upa A 98 F) 99 T) 100 B) (upd I 36 (nI c)))) := by
    intro j
    induction j with
    | zero =>
      intro t on htj h1 h2 hst hre
      refine R_iload (q := 32) rfl rfl rfl ?_
      refine R_if_eq (q := 35) (t := 142) rfl rfl rfl (fun h32 => absurd h32 (by decide)) (fun h32 => ?_)
      refine R_iload (q := 37) rfl rfl rfl ?_
      refine R_bipush (q := 39) (v := nI 16) rfl rfl (by decide) ?_
      refine R_icmp_ge (q := 42) (t := 78) rfl rfl rfl (fun h39 => ?_) (fun h39 => absurd (nI_le (by omega) (by omega)) h39)
      refine R_iconst (q := 79) (v := nI 0) rfl rfl (by decide) ?_
      refine R_istore (q := 81) rfl rfl (Nat.le_of_ble_eq_true rfl) rfl ?_
      dsimp only [List.set]
      refine R_iload (q := 83) rfl rfl rfl ?_
      refine R_if_eq (q := 86) (t := 93) rfl rfl rfl (fun h83 => ?_) (fun h83 => absurd rfl h83)
      refine R_iload (q := 95) rfl rfl rfl ?_
      refine R_istore (q := 97) rfl rfl (Nat.le_of_ble_eq_true rfl) rfl ?_
      dsimp only [List.set]
      refine R_iload (q := 99) rfl rfl rfl ?_
      refine R_if_eq (q := 102) (t := 136) rfl rfl rfl (fun h99 => ?_) (fun h99 => absurd rfl h99)
      refine R_iconst (q := 137) (v := nI 0) rfl rfl (by decide) ?_
      refine R_istore (q := 139) rfl rfl (Nat.le_of_ble_eq_true rfl) rfl ?_
      dsimp only [List.set]
      refine R_goto (t := 30) rfl rfl ?_
      refine R_iload (q := 32) rfl rfl rfl ?_
      refine R_if_eq (q := 35) (t := 142) rfl rfl rfl (fun h32 => ?_) (fun h32 => absurd rfl h32)
      exact h142 t _ hst hre
    | succ j ih =>
      intro t on htj h1 h2 hst hre
      have hre2 : re (innr (sh s) true ln) (j + 1) t = if innr (sh s) true ln t = true then re (innr (sh s) true ln) j (t + 1) else t := rfl
      have hoff : innr (sh s) true ln t = false → mm_R S (d + 3) 176 79 [some (.ref 73), some (.int (nI s)), some (.int (nI t0)), some (.int (nI ln)), some (.int (zb true)), some (.int (nI t0)), some (.int (nI t)), some (.int (nI 1))] [.int (nI 0)] (mdm M (upa (upa (upa A 98 F) 99 T) 100 B) (upd I 36 (nI c))) (fun v M' => v = none ∧ M' = if corr (sh s) true ln t0 = true ∧ t0 < (re (innr (sh s) true ln) (16 - t0) t0) ∧ corr (sh s) true ln (re (innr (sh s) true ln) (16 - t0) t0) = true then (mdm M (upa (upa (upa A 98 (upd F c (nI t0))) 99 (upd T c (nI (re (innr (sh s) true ln) (16 - t0) t0)))) 100 (upd B c (nI ln))) (upd I 36 (nI (c + 1)))) else (mdm M (upa (upa (upa A 98 F) 99 T) 100 B) (upd I 36 (nI c)))) := by
        intro hin
        rw [hin, if_neg (by decide)] at hre2
        have hre := hre2.symm.trans hre
        refine R_istore (q := 81) rfl rfl (Nat.le_of_ble_eq_true rfl) rfl ?_
        dsimp only [List.set]
        refine R_iload (q := 83) rfl rfl rfl ?_
        refine R_if_eq (q := 86) (t := 93) rfl rfl rfl (fun h83 => ?_) (fun h83 => absurd rfl h83)
        refine R_iload (q := 95) rfl rfl rfl ?_
        refine R_istore (q := 97) rfl rfl (Nat.le_of_ble_eq_true rfl) rfl ?_
        dsimp only [List.set]
        refine R_iload (q := 99) rfl rfl rfl ?_
        refine R_if_eq (q := 102) (t := 136) rfl rfl rfl (fun h99 => ?_) (fun h99 => absurd rfl h99)
        refine R_iconst (q := 137) (v := nI 0) rfl rfl (by decide) ?_
        refine R_istore (q := 139) rfl rfl (Nat.le_of_ble_eq_true rfl) rfl ?_
        dsimp only [List.set]
        refine R_goto (t := 30) rfl rfl ?_
        refine R_iload (q := 32) rfl rfl rfl ?_
        refine R_if_eq (q := 35) (t := 142) rfl rfl rfl (fun h32 => ?_) (fun h32 => absurd rfl h32)
        exact h142 t _ hst hre
      have hon : innr (sh s) true ln t = true → mm_R S (d + 3) 176 79 [some (.ref 73), some (.int (nI s)), some (.int (nI t0)), some (.int (nI ln)), some (.int (zb true)), some (.int (nI t0)), some (.int (nI t)), some (.int (nI 1))] [.int (nI 1)] (mdm M (upa (upa (upa A 98 F) 99 T) 100 B) (upd I 36 (nI c))) (fun v M' => v = none ∧ M' = if corr (sh s) true ln t0 = true ∧ t0 < (re (innr (sh s) true ln) (16 - t0) t0) ∧ corr (sh s) true ln (re (innr (sh s) true ln) (16 - t0) t0) = true then (mdm M (upa (upa (upa A 98 (upd F c (nI t0))) 99 (upd T c (nI (re (innr (sh s) true ln) (16 - t0) t0)))) 100 (upd B c (nI ln))) (upd I 36 (nI (c + 1)))) else (mdm M (upa (upa (upa A 98 F) 99 T) 100 B) (upd I 36 (nI c)))) := by
        intro hin
        rw [if_pos hin] at hre2
        have hre := hre2.symm.trans hre
        have hgo : crn (sh s) (t + 1) ln = false → mm_R S (d + 3) 176 137 [some (.ref 73), some (.int (nI s)), some (.int (nI t0)), some (.int (nI ln)), some (.int (zb true)), some (.int (nI t0)), some (.int (nI (t + 1))), some (.int (nI 1))] [.int (nI 1)] (mdm M (upa (upa (upa A 98 F) 99 T) 100 B) (upd I 36 (nI c))) (fun v M' => v = none ∧ M' = if corr (sh s) true ln t0 = true ∧ t0 < (re (innr (sh s) true ln) (16 - t0) t0) ∧ corr (sh s) true ln (re (innr (sh s) true ln) (16 - t0) t0) = true then (mdm M (upa (upa (upa A 98 (upd F c (nI t0))) 99 (upd T c (nI (re (innr (sh s) true ln) (16 - t0) t0)))) 100 (upd B c (nI ln))) (upd I 36 (nI (c + 1)))) else (mdm M (upa (upa (upa A 98 F) 99 T) 100 B) (upd I 36 (nI c)))) := by
          intro hk
          refine R_istore (q := 139) rfl rfl (Nat.le_of_ble_eq_true rfl) rfl ?_
          dsimp only [List.set]
          refine R_goto (t := 30) rfl rfl ?_
          exact ih (t + 1) none (by omega) (by omega) (fun _ => hin) hst hre
        have hstop : crn (sh s) (t + 1) ln = true → mm_R S (d + 3) 176 137 [some (.ref 73), some (.int (nI s)), some (.int (nI t0)), some (.int (nI ln)), some (.int (zb true)), some (.int (nI t0)), some (.int (nI (t + 1))), some (.int (nI 1))] [.int (nI 0)] (mdm M (upa (upa (upa A 98 F) 99 T) 100 B) (upd I 36 (nI c))) (fun v M' => v = none ∧ M' = if corr (sh s) true ln t0 = true ∧ t0 < (re (innr (sh s) true ln) (16 - t0) t0) ∧ corr (sh s) true ln (re (innr (sh s) true ln) (16 - t0) t0) = true then (mdm M (upa (upa (upa A 98 (upd F c (nI t0))) 99 (upd T c (nI (re (innr (sh s) true ln) (16 - t0) t0)))) 100 (upd B c (nI ln))) (upd I 36 (nI (c + 1)))) else (mdm M (upa (upa (upa A 98 F) 99 T) 100 B) (upd I 36 (nI c)))) := by
          intro hk
          have hend : t + 1 = re (innr (sh s) true ln) j (t + 1) := by
            cases j with
            | zero => rfl
            | succ j =>
              have hni : ¬ innr (sh s) true ln (t + 1) = true := fun z => by
                have := crn_in (t := t + 1) (by omega) hin z
                unfold corr at this
                rw [if_pos rfl, hk] at this
                exact absurd this (by decide)
              exact (if_neg hni).symm
          refine R_istore (q := 139) rfl rfl (Nat.le_of_ble_eq_true rfl) rfl ?_
          dsimp only [List.set]
          refine R_goto (t := 30) rfl rfl ?_
          refine R_iload (q := 32) rfl rfl rfl ?_
          refine R_if_eq (q := 35) (t := 142) rfl rfl rfl (fun h32 => ?_) (fun h32 => absurd rfl h32)
          exact h142 (t + 1) _ hst (by rw [← hre]; exact hend)
        refine R_istore (q := 81) rfl rfl (Nat.le_of_ble_eq_true rfl) rfl ?_
        dsimp only [List.set]
        refine R_iload (q := 83) rfl rfl rfl ?_
        refine R_if_eq (q := 86) (t := 93) rfl rfl rfl (fun h83 => absurd h83 (by decide)) (fun h83 => ?_)
        refine R_iload (q := 88) rfl rfl rfl ?_
        refine R_iconst (q := 89) (v := nI 1) rfl rfl (by decide) ?_
        refine R_iadd (q := 90) rfl rfl ?_
        rw [nI_add]
        refine R_goto (t := 95) rfl rfl ?_
        refine R_istore (q := 97) rfl rfl (Nat.le_of_ble_eq_true rfl) rfl ?_
        dsimp only [List.set]
        refine R_iload (q := 99) rfl rfl rfl ?_
        refine R_if_eq (q := 102) (t := 136) rfl rfl rfl (fun h99 => absurd h99 (by decide)) (fun h99 => ?_)
        refine R_iload (q := 104) rfl rfl rfl ?_
        refine R_if_eq (q := 107) (t := 121) rfl rfl rfl (fun h104 => absurd h104 (by decide)) (fun h104 => ?_)
        refine R_aload_n (q := 108) rfl rfl rfl ?_
        refine R_iload_n (q := 109) rfl rfl rfl ?_
        refine R_iload (q := 111) rfl rfl rfl ?_
        refine R_iload_n (q := 112) rfl rfl rfl ?_
        refine R_callv3 (q := 115) rfl rfl rfl rfl md_73 (Nat.le_of_ble_eq_true rfl) rfl ?_
        refine R_mono (m173 (x := t + 1) (y := ln) rr1 hs6 (by omega) (by omega)) (fun v112 M112 hr112 => ?_)
        obtain ⟨rfl, hm112⟩ := hr112
        rw [hm112]
        dsimp only [Option.toList, List.cons_append, List.nil_append]
        refine R_if_eq (q := 118) (t := 132) rfl rfl rfl (fun h115 => ?_) (fun h115 => ?_)
        · refine R_iconst (q := 133) (v := nI 1) rfl rfl (by decide) ?_
          refine R_goto (t := 137) rfl rfl ?_
          first
            | (have hk := zb_eq0.mp h115
               exact hgo hk)
            | (have hk := zb_ne0.mp h115
               exact hstop hk)
        · refine R_goto (t := 136) rfl rfl ?_
          refine R_iconst (q := 137) (v := nI 0) rfl rfl (by decide) ?_
          first
            | (have hk := zb_eq0.mp h115
               exact hgo hk)
            | (have hk := zb_ne0.mp h115
               exact hstop hk)
      refine R_iload (q := 32) rfl rfl rfl ?_
      refine R_if_eq (q := 35) (t := 142) rfl rfl rfl (fun h32 => absurd h32 (by decide)) (fun h32 => ?_)
      refine R_iload (q := 37) rfl rfl rfl ?_
      refine R_bipush (q := 39) (v := nI 16) rfl rfl (by decide) ?_
      refine R_icmp_ge (q := 42) (t := 78) rfl rfl rfl (fun h39 => absurd h39 (nI_ge (by omega) (by omega))) (fun h39 => ?_)
      refine R_iload (q := 44) rfl rfl rfl ?_
      refine R_if_eq (q := 47) (t := 62) rfl rfl rfl (fun h44 => absurd h44 (by decide)) (fun h44 => ?_)
      refine R_aload_n (q := 48) rfl rfl rfl ?_
      refine R_iload_n (q := 49) rfl rfl rfl ?_
      refine R_iload (q := 51) rfl rfl rfl ?_
      refine R_iload_n (q := 52) rfl rfl rfl ?_
      refine R_iconst (q := 53) (v := nI 1) rfl rfl (by decide) ?_
      refine R_callv4 (q := 56) rfl rfl rfl rfl md_73 (Nat.le_of_ble_eq_true rfl) rfl ?_
      refine R_mono (m174 (x := t) (y := ln) (lv := true) rr1 hs6 (by omega) (by omega)) (fun v53 M53 hr53 => ?_)
      obtain ⟨rfl, hm53⟩ := hr53
      rw [hm53]
      dsimp only [Option.toList, List.cons_append, List.nil_append]
      refine R_if_eq (q := 59) (t := 78) rfl rfl rfl (fun h56 => ?_) (fun h56 => ?_)
      · refine R_iconst (q := 79) (v := nI 0) rfl rfl (by decide) ?_
        first
          | (have hk := zb_ne0.mp h56
             exact hon hk)
          | (have hk := zb_eq0.mp h56
             exact hoff hk)
      · refine R_goto (t := 74) rfl rfl ?_
        refine R_iconst (q := 75) (v := nI 1) rfl rfl (by decide) ?_
        refine R_goto (t := 79) rfl rfl ?_
        first
          | (have hk := zb_ne0.mp h56
             exact hon hk)
          | (have hk := zb_eq0.mp h56
             exact hoff hk)
  refine R_aload_n (q := 1) rfl rfl rfl ?_
  refine R_iload_n (q := 2) rfl rfl rfl ?_
  refine R_iload_n (q := 3) rfl rfl rfl ?_
  refine R_iload_n (q := 4) rfl rfl rfl ?_
  refine R_callv3 (q := 7) rfl rfl rfl rfl md_73 (Nat.le_of_ble_eq_true rfl) rfl ?_
  refine R_mono (m173 (x := t0) (y := ln) rr1 hs6 (by omega) (by omega)) (fun v4 M4 hr4 => ?_)
  obtain ⟨rfl, hm4⟩ := hr4
  rw [hm4]
  dsimp only [Option.toList, List.cons_append, List.nil_append]
  refine R_if_ne (q := 10) (t := 11) rfl rfl rfl (fun h7 => ?_) (fun h7 => ?_)
  · refine R_iload (q := 13) rfl rfl rfl ?_
    refine R_if_eq (q := 16) (t := 20) rfl rfl rfl (fun h13 => absurd h13 (by decide)) (fun h13 => ?_)
    refine R_iload_n (q := 17) rfl rfl rfl ?_
    refine R_goto (t := 21) rfl rfl ?_
    refine R_istore (q := 23) rfl rfl (Nat.le_of_ble_eq_true rfl) rfl ?_
    dsimp only [List.set]
    refine R_iload (q := 25) rfl rfl rfl ?_
    refine R_istore (q := 27) rfl rfl (Nat.le_of_ble_eq_true rfl) rfl ?_
    dsimp only [List.set]
    refine R_iconst (q := 28) (v := nI 1) rfl rfl (by decide) ?_
    refine R_istore (q := 30) rfl rfl (Nat.le_of_ble_eq_true rfl) rfl ?_
    dsimp only [List.set]
    exact hlp (16 - t0) t0 none (by omega) (Nat.le_refl _) (fun z => absurd z (Nat.lt_irrefl _)) (zb_ne0.mp h7) rfl
  · refine R_return rfl rfl ?_
    refine ⟨rfl, (if_neg (fun q => ?_)).symm⟩
    have z := zb_eq0.mp h7
    have q1 : crn (sh s) t0 ln = true := q.1
    rw [z] at q1
    exact absurd q1 (by decide)
set_option maxRecDepth 8000 in
theorem m176_U {s t0 ln c : Nat} {F T B : Nat → Int32} (hc : CRl A sh) (hs6 : s < 6) (ht : t0 ≤ 16) (hln : ln ≤ 16) (hcc : c < 289) : mm_R S (d + 3) 176 0 (mm_en 176 [.ref 73, .int (nI s), .int (nI ln), .int (nI t0), .int (zb false)]) [] (mdm M (upa (upa (upa A 98 F) 99 T) 100 B) (upd I 36 (nI c))) (fun v M' => v = none ∧ M' = if corr (sh s) false ln t0 = true ∧ t0 < (re (innr (sh s) false ln) (16 - t0) t0) ∧ corr (sh s) false ln (re (innr (sh s) false ln) (16 - t0) t0) = true then (mdm M (upa (upa (upa A 98 (upd F c (nI t0))) 99 (upd T c (nI (re (innr (sh s) false ln) (16 - t0) t0)))) 100 (upd B c (nI ln))) (upd I 36 (nI (c + 1)))) else (mdm M (upa (upa (upa A 98 F) 99 T) 100 B) (upd I 36 (nI c)))) := by
  show mm_R S (d + 3) 176 0 [some (.ref 73), some (.int (nI s)), some (.int (nI ln)), some (.int (nI t0)), some (.int (zb false)), none, none, none] [] (mdm M (upa (upa (upa A 98 F) 99 T) 100 B) (upd I 36 (nI c))) _
  have rr1 : CRl (upa (upa (upa A 98 F) 99 T) 100 B) sh := hc
  have h142 : ∀ (e : Nat) (on : Option Value), corr (sh s) false ln t0 = true → e = (re (innr (sh s) false ln) (16 - t0) t0) → mm_R S (d + 3) 176 142 [some (.ref 73), some (.int (nI s)), some (.int (nI ln)), some (.int (nI t0)), some (.int (zb false)), some (.int (nI t0)), some (.int (nI e)), on] [] (mdm M (upa (upa (upa A 98 F) 99 T) 100 B) (upd I 36 (nI c))) (fun v M' => v = none ∧ M' = if corr (sh s) false ln t0 = true ∧ t0 < (re (innr (sh s) false ln) (16 - t0) t0) ∧ corr (sh s) false ln (re (innr (sh s) false ln) (16 - t0) t0) = true then (mdm M (upa (upa (upa A 98 (upd F c (nI t0))) 99 (upd T c (nI (re (innr (sh s) false ln) (16 - t0) t0)))) 100 (upd B c (nI ln))) (upd I 36 (nI (c + 1)))) else (mdm M (upa (upa (upa A 98 F) 99 T) 100 B) (upd I 36 (nI c)))) := by
    intro e on hst he
    have heb : t0 ≤ e ∧ e ≤ 16 := by rw [he]; have := re_ge (innr (sh s) false ln) (16 - t0) t0; omega
    rw [← he]
    refine R_iload (q := 144) rfl rfl rfl ?_
    refine R_iload (q := 146) rfl rfl rfl ?_
    refine R_icmp_le (q := 149) (t := 230) rfl rfl rfl (fun h146 => ?_) (fun h146 => ?_)
    · refine R_return rfl rfl ?_
      first
        | (have z1 := nI_lt_of (by omega) h146
           have z2 := zb_ne0.mp h176
           exact ⟨rfl, (if_pos ⟨hst, z1, z2⟩).symm⟩)
        | (refine ⟨rfl, (if_neg (fun q => ?_)).symm⟩
           first
             | exact nI_ge q.2.1 (by omega) h146
             | (have z := zb_eq0.mp h176
                have q3 : crn (sh s) ln e = true := q.2.2
                rw [z] at q3
                exact absurd q3 (by decide)))
    · refine R_iload (q := 151) rfl rfl rfl ?_
      refine R_if_eq (q := 154) (t := 168) rfl rfl rfl (fun h151 => ?_) (fun h151 => absurd rfl h151)
      refine R_aload_n (q := 169) rfl rfl rfl ?_
      refine R_iload_n (q := 170) rfl rfl rfl ?_
      refine R_iload_n (q := 171) rfl rfl rfl ?_
      refine R_iload (q := 173) rfl rfl rfl ?_
      refine R_callv3 (q := 176) rfl rfl rfl rfl md_73 (Nat.le_of_ble_eq_true rfl) rfl ?_
      refine R_mono (m173 (x := ln) (y := e) rr1 hs6 (by omega) (by omega)) (fun v173 M173 hr173 => ?_)
      obtain ⟨rfl, hm173⟩ := hr173
      rw [hm173]
      dsimp only [Option.toList, List.cons_append, List.nil_append]
      refine R_if_eq (q := 179) (t := 230) rfl rfl rfl (fun h176 => ?_) (fun h176 => ?_)
      · refine R_return rfl rfl ?_
        first
          | (have z1 := nI_lt_of (by omega) h146
             have z2 := zb_ne0.mp h176
             exact ⟨rfl, (if_pos ⟨hst, z1, z2⟩).symm⟩)
          | (refine ⟨rfl, (if_neg (fun q => ?_)).symm⟩
             first
               | exact nI_ge q.2.1 (by omega) h146
               | (have z := zb_eq0.mp h176
                  have q3 : crn (sh s) ln e = true := q.2.2
                  rw [z] at q3
                  exact absurd q3 (by decide)))
      · refine R_aload_n (q := 180) rfl rfl rfl ?_
        refine R_getf (q := 183) rfl rfl rfl md_73 rfl ?_
        refine R_aload_n (q := 184) rfl rfl rfl ?_
        refine R_getf (q := 187) rfl rfl rfl md_73 rfl ?_
        rw [upd_e]
        refine R_iload (q := 189) rfl rfl rfl ?_
        refine R_iastore (q := 190) rfl rfl md_98 (by first | assumption | exact in_nI (by omega) (by decide)) ?_
        rw [cl_nI (by omega)]
        rw [md_p98]
        rw [upa_cm (a := 100) (b := 98) (by decide), upa_cm (a := 99) (b := 98) (by decide), upa_u, show upa (upa (upa A 98 F) 99 T) 100 B 98 = F from rfl]
        refine R_aload_n (q := 191) rfl rfl rfl ?_
        refine R_getf (q := 194) rfl rfl rfl md_73 rfl ?_
        refine R_aload_n (q := 195) rfl rfl rfl ?_
        refine R_getf (q := 198) rfl rfl rfl md_73 rfl ?_
        rw [upd_e]
        refine R_iload (q := 200) rfl rfl rfl ?_
        refine R_iastore (q := 201) rfl rfl md_99 (by first | assumption | exact in_nI (by omega) (by decide)) ?_
        rw [cl_nI (by omega)]
        rw [md_p99]
        rw [upa_cm (a := 100) (b := 99) (by decide), upa_u, show upa (upa (upa A 98 (upd F c (nI t0))) 99 T) 100 B 99 = T from rfl]
        refine R_aload_n (q := 202) rfl rfl rfl ?_
        refine R_getf (q := 205) rfl rfl rfl md_73 rfl ?_
        refine R_aload_n (q := 206) rfl rfl rfl ?_
        refine R_getf (q := 209) rfl rfl rfl md_73 rfl ?_
        rw [upd_e]
        refine R_iload (q := 211) rfl rfl rfl ?_
        refine R_if_eq (q := 214) (t := 218) rfl rfl rfl (fun h211 => ?_) (fun h211 => absurd rfl h211)
        refine R_iload_n (q := 219) rfl rfl rfl ?_
        refine R_iastore (q := 220) rfl rfl md_100 (by first | assumption | exact in_nI (by omega) (by decide)) ?_
        rw [cl_nI (by omega)]
        rw [md_p100]
        rw [upa_u, upa_e]
        refine R_aload_n (q := 221) rfl rfl rfl ?_
        first | refine R_dupa (q := 222) rfl rfl ?_ | refine R_dupi (q := 222) rfl rfl ?_
        refine R_getf (q := 225) rfl rfl rfl md_73 rfl ?_
        rw [upd_e]
        refine R_iconst (q := 226) (v := nI 1) rfl rfl (by decide) ?_
        refine R_iadd (q := 227) rfl rfl ?_
        rw [nI_add]
        refine R_putf (q := 230) rfl rfl rfl md_73 (Nat.le_of_ble_eq_true rfl) rfl (fun hf => absurd hf (by decide)) rfl ?_
        dsimp only [List.set]
        rw [md_f36]
        rw [upd_uu]
        refine R_return rfl rfl ?_
        first
          | (have z1 := nI_lt_of (by omega) h146
             have z2 := zb_ne0.mp h176
             exact ⟨rfl, (if_pos ⟨hst, z1, z2⟩).symm⟩)
          | (refine ⟨rfl, (if_neg (fun q => ?_)).symm⟩
             first
               | exact nI_ge q.2.1 (by omega) h146
               | (have z := zb_eq0.mp h176
                  have q3 : crn (sh s) ln e = true := q.2.2
                  rw [z] at q3
                  exact absurd q3 (by decide)))
  have hlp : ∀ (j t : Nat) (on : Option Value), t + j = 16 → t0 ≤ t → (t0 < t → innr (sh s) false ln (t - 1) = true) → corr (sh s) false ln t0 = true → re (innr (sh s) false ln) j t = (re (innr (sh s) false ln) (16 - t0) t0) → mm_R S (d + 3) 176 30 [some (.ref 73), some (.int (nI s)), some (.int (nI ln)), some (.int (nI t0)), some (.int (zb false)), some (.int (nI t0)), some (.int (nI t)), some (.int (nI 1))] [] (mdm M (upa (upa (upa A 98 F) 99 T) 100 B) (upd I 36 (nI c))) (fun v M' => v = none ∧ M' = if corr (sh s) false ln t0 = true ∧ t0 < (re (innr (sh s) false ln) (16 - t0) t0) ∧ corr (sh s) false ln (re (innr (sh s) false ln) (16 - t0) t0) = true then (mdm M (upa (upa (upa A 98 (upd F c (nI t0))) 99 (upd T c (nI (re (innr (sh s) false ln) (16 - t0) t0)))) 100 (upd B c (nI ln))) (upd I 36 (nI (c + 1)))) else (mdm M (upa (upa (upa A 98 F) 99 T) 100 B) (upd I 36 (nI c)))) := by
    intro j
    induction j with
    | zero =>
      intro t on htj h1 h2 hst hre
      refine R_iload (q := 32) rfl rfl rfl ?_
      refine R_if_eq (q := 35) (t := 142) rfl rfl rfl (fun h32 => absurd h32 (by decide)) (fun h32 => ?_)
      refine R_iload (q := 37) rfl rfl rfl ?_
      refine R_bipush (q := 39) (v := nI 16) rfl rfl (by decide) ?_
      refine R_icmp_ge (q := 42) (t := 78) rfl rfl rfl (fun h39 => ?_) (fun h39 => absurd (nI_le (by omega) (by omega)) h39)
      refine R_iconst (q := 79) (v := nI 0) rfl rfl (by decide) ?_
      refine R_istore (q := 81) rfl rfl (Nat.le_of_ble_eq_true rfl) rfl ?_
      dsimp only [List.set]
      refine R_iload (q := 83) rfl rfl rfl ?_
      refine R_if_eq (q := 86) (t := 93) rfl rfl rfl (fun h83 => ?_) (fun h83 => absurd rfl h83)
      refine R_iload (q := 95) rfl rfl rfl ?_
      refine R_istore (q := 97) rfl rfl (Nat.le_of_ble_eq_true rfl) rfl ?_
      dsimp only [List.set]
      refine R_iload (q := 99) rfl rfl rfl ?_
      refine R_if_eq (q := 102) (t := 136) rfl rfl rfl (fun h99 => ?_) (fun h99 => absurd rfl h99)
      refine R_iconst (q := 137) (v := nI 0) rfl rfl (by decide) ?_
      refine R_istore (q := 139) rfl rfl (Nat.le_of_ble_eq_true rfl) rfl ?_
      dsimp only [List.set]
      refine R_goto (t := 30) rfl rfl ?_
      refine R_iload (q := 32) rfl rfl rfl ?_
      refine R_if_eq (q := 35) (t := 142) rfl rfl rfl (fun h32 => ?_) (fun h32 => absurd rfl h32)
      exact h142 t _ hst hre
    | succ j ih =>
      intro t on htj h1 h2 hst hre
      have hre2 : re (innr (sh s) false ln) (j + 1) t = if innr (sh s) false ln t = true then re (innr (sh s) false ln) j (t + 1) else t := rfl
      have hoff : innr (sh s) false ln t = false → mm_R S (d + 3) 176 79 [some (.ref 73), some (.int (nI s)), some (.int (nI ln)), some (.int (nI t0)), some (.int (zb false)), some (.int (nI t0)), some (.int (nI t)), some (.int (nI 1))] [.int (nI 0)] (mdm M (upa (upa (upa A 98 F) 99 T) 100 B) (upd I 36 (nI c))) (fun v M' => v = none ∧ M' = if corr (sh s) false ln t0 = true ∧ t0 < (re (innr (sh s) false ln) (16 - t0) t0) ∧ corr (sh s) false ln (re (innr (sh s) false ln) (16 - t0) t0) = true then (mdm M (upa (upa (upa A 98 (upd F c (nI t0))) 99 (upd T c (nI (re (innr (sh s) false ln) (16 - t0) t0)))) 100 (upd B c (nI ln))) (upd I 36 (nI (c + 1)))) else (mdm M (upa (upa (upa A 98 F) 99 T) 100 B) (upd I 36 (nI c)))) := by
        intro hin
        rw [hin, if_neg (by decide)] at hre2
        have hre := hre2.symm.trans hre
        refine R_istore (q := 81) rfl rfl (Nat.le_of_ble_eq_true rfl) rfl ?_
        dsimp only [List.set]
        refine R_iload (q := 83) rfl rfl rfl ?_
        refine R_if_eq (q := 86) (t := 93) rfl rfl rfl (fun h83 => ?_) (fun h83 => absurd rfl h83)
        refine R_iload (q := 95) rfl rfl rfl ?_
        refine R_istore (q := 97) rfl rfl (Nat.le_of_ble_eq_true rfl) rfl ?_
        dsimp only [List.set]
        refine R_iload (q := 99) rfl rfl rfl ?_
        refine R_if_eq (q := 102) (t := 136) rfl rfl rfl (fun h99 => ?_) (fun h99 => absurd rfl h99)
        refine R_iconst (q := 137) (v := nI 0) rfl rfl (by decide) ?_
        refine R_istore (q := 139) rfl rfl (Nat.le_of_ble_eq_true rfl) rfl ?_
        dsimp only [List.set]
        refine R_goto (t := 30) rfl rfl ?_
        refine R_iload (q := 32) rfl rfl rfl ?_
        refine R_if_eq (q := 35) (t := 142) rfl rfl rfl (fun h32 => ?_) (fun h32 => absurd rfl h32)
        exact h142 t _ hst hre
      have hon : innr (sh s) false ln t = true → mm_R S (d + 3) 176 79 [some (.ref 73), some (.int (nI s)), some (.int (nI ln)), some (.int (nI t0)), some (.int (zb false)), some (.int (nI t0)), some (.int (nI t)), some (.int (nI 1))] [.int (nI 1)] (mdm M (upa (upa (upa A 98 F) 99 T) 100 B) (upd I 36 (nI c))) (fun v M' => v = none ∧ M' = if corr (sh s) false ln t0 = true ∧ t0 < (re (innr (sh s) false ln) (16 - t0) t0) ∧ corr (sh s) false ln (re (innr (sh s) false ln) (16 - t0) t0) = true then (mdm M (upa (upa (upa A 98 (upd F c (nI t0))) 99 (upd T c (nI (re (innr (sh s) false ln) (16 - t0) t0)))) 100 (upd B c (nI ln))) (upd I 36 (nI (c + 1)))) else (mdm M (upa (upa (upa A 98 F) 99 T) 100 B) (upd I 36 (nI c)))) := by
        intro hin
        rw [if_pos hin] at hre2
        have hre := hre2.symm.trans hre
        have hgo : crn (sh s) ln (t + 1) = false → mm_R S (d + 3) 176 137 [some (.ref 73), some (.int (nI s)), some (.int (nI ln)), some (.int (nI t0)), some (.int (zb false)), some (.int (nI t0)), some (.int (nI (t + 1))), some (.int (nI 1))] [.int (nI 1)] (mdm M (upa (upa (upa A 98 F) 99 T) 100 B) (upd I 36 (nI c))) (fun v M' => v = none ∧ M' = if corr (sh s) false ln t0 = true ∧ t0 < (re (innr (sh s) false ln) (16 - t0) t0) ∧ corr (sh s) false ln (re (innr (sh s) false ln) (16 - t0) t0) = true then (mdm M (upa (upa (upa A 98 (upd F c (nI t0))) 99 (upd T c (nI (re (innr (sh s) false ln) (16 - t0) t0)))) 100 (upd B c (nI ln))) (upd I 36 (nI (c + 1)))) else (mdm M (upa (upa (upa A 98 F) 99 T) 100 B) (upd I 36 (nI c)))) := by
          intro hk
          refine R_istore (q := 139) rfl rfl (Nat.le_of_ble_eq_true rfl) rfl ?_
          dsimp only [List.set]
          refine R_goto (t := 30) rfl rfl ?_
          exact ih (t + 1) none (by omega) (by omega) (fun _ => hin) hst hre
        have hstop : crn (sh s) ln (t + 1) = true → mm_R S (d + 3) 176 137 [some (.ref 73), some (.int (nI s)), some (.int (nI ln)), some (.int (nI t0)), some (.int (zb false)), some (.int (nI t0)), some (.int (nI (t + 1))), some (.int (nI 1))] [.int (nI 0)] (mdm M (upa (upa (upa A 98 F) 99 T) 100 B) (upd I 36 (nI c))) (fun v M' => v = none ∧ M' = if corr (sh s) false ln t0 = true ∧ t0 < (re (innr (sh s) false ln) (16 - t0) t0) ∧ corr (sh s) false ln (re (innr (sh s) false ln) (16 - t0) t0) = true then (mdm M (upa (upa (upa A 98 (upd F c (nI t0))) 99 (upd T c (nI (re (innr (sh s) false ln) (16 - t0) t0)))) 100 (upd B c (nI ln))) (upd I 36 (nI (c + 1)))) else (mdm M (upa (upa (upa A 98 F) 99 T) 100 B) (upd I 36 (nI c)))) := by
          intro hk
          have hend : t + 1 = re (innr (sh s) false ln) j (t + 1) := by
            cases j with
            | zero => rfl
            | succ j =>
              have hni : ¬ innr (sh s) false ln (t + 1) = true := fun z => by
                have := crn_in (t := t + 1) (by omega) hin z
                unfold corr at this
                rw [if_neg (by decide), hk] at this
                exact absurd this (by decide)
              exact (if_neg hni).symm
          refine R_istore (q := 139) rfl rfl (Nat.le_of_ble_eq_true rfl) rfl ?_
          dsimp only [List.set]
          refine R_goto (t := 30) rfl rfl ?_
          refine R_iload (q := 32) rfl rfl rfl ?_
          refine R_if_eq (q := 35) (t := 142) rfl rfl rfl (fun h32 => ?_) (fun h32 => absurd rfl h32)
          exact h142 (t + 1) _ hst (by rw [← hre]; exact hend)
        refine R_istore (q := 81) rfl rfl (Nat.le_of_ble_eq_true rfl) rfl ?_
        dsimp only [List.set]
        refine R_iload (q := 83) rfl rfl rfl ?_
        refine R_if_eq (q := 86) (t := 93) rfl rfl rfl (fun h83 => absurd h83 (by decide)) (fun h83 => ?_)
        refine R_iload (q := 88) rfl rfl rfl ?_
        refine R_iconst (q := 89) (v := nI 1) rfl rfl (by decide) ?_
        refine R_iadd (q := 90) rfl rfl ?_
        rw [nI_add]
        refine R_goto (t := 95) rfl rfl ?_
        refine R_istore (q := 97) rfl rfl (Nat.le_of_ble_eq_true rfl) rfl ?_
        dsimp only [List.set]
        refine R_iload (q := 99) rfl rfl rfl ?_
        refine R_if_eq (q := 102) (t := 136) rfl rfl rfl (fun h99 => absurd h99 (by decide)) (fun h99 => ?_)
        refine R_iload (q := 104) rfl rfl rfl ?_
        refine R_if_eq (q := 107) (t := 121) rfl rfl rfl (fun h104 => ?_) (fun h104 => absurd rfl h104)
        refine R_aload_n (q := 122) rfl rfl rfl ?_
        refine R_iload_n (q := 123) rfl rfl rfl ?_
        refine R_iload_n (q := 124) rfl rfl rfl ?_
        refine R_iload (q := 126) rfl rfl rfl ?_
        refine R_callv3 (q := 129) rfl rfl rfl rfl md_73 (Nat.le_of_ble_eq_true rfl) rfl ?_
        refine R_mono (m173 (x := ln) (y := t + 1) rr1 hs6 (by omega) (by omega)) (fun v126 M126 hr126 => ?_)
        obtain ⟨rfl, hm126⟩ := hr126
        rw [hm126]
        dsimp only [Option.toList, List.cons_append, List.nil_append]
        refine R_if_ne (q := 132) (t := 136) rfl rfl rfl (fun h129 => ?_) (fun h129 => ?_)
        · refine R_iconst (q := 137) (v := nI 0) rfl rfl (by decide) ?_
          first
            | (have hk := zb_eq0.mp h129
               exact hgo hk)
            | (have hk := zb_ne0.mp h129
               exact hstop hk)
        · refine R_iconst (q := 133) (v := nI 1) rfl rfl (by decide) ?_
          refine R_goto (t := 137) rfl rfl ?_
          first
            | (have hk := zb_eq0.mp h129
               exact hgo hk)
            | (have hk := zb_ne0.mp h129
               exact hstop hk)
      refine R_iload (q := 32) rfl rfl rfl ?_
      refine R_if_eq (q := 35) (t := 142) rfl rfl rfl (fun h32 => absurd h32 (by decide)) (fun h32 => ?_)
      refine R_iload (q := 37) rfl rfl rfl ?_
      refine R_bipush (q := 39) (v := nI 16) rfl rfl (by decide) ?_
      refine R_icmp_ge (q := 42) (t := 78) rfl rfl rfl (fun h39 => absurd h39 (nI_ge (by omega) (by omega))) (fun h39 => ?_)
      refine R_iload (q := 44) rfl rfl rfl ?_
      refine R_if_eq (q := 47) (t := 62) rfl rfl rfl (fun h44 => ?_) (fun h44 => absurd rfl h44)
      refine R_aload_n (q := 63) rfl rfl rfl ?_
      refine R_iload_n (q := 64) rfl rfl rfl ?_
      refine R_iload_n (q := 65) rfl rfl rfl ?_
      refine R_iload (q := 67) rfl rfl rfl ?_
      refine R_iconst (q := 68) (v := nI 0) rfl rfl (by decide) ?_
      refine R_callv4 (q := 71) rfl rfl rfl rfl md_73 (Nat.le_of_ble_eq_true rfl) rfl ?_
      refine R_mono (m174 (x := ln) (y := t) (lv := false) rr1 hs6 (by omega) (by omega)) (fun v68 M68 hr68 => ?_)
      obtain ⟨rfl, hm68⟩ := hr68
      rw [hm68]
      dsimp only [Option.toList, List.cons_append, List.nil_append]
      refine R_if_eq (q := 74) (t := 78) rfl rfl rfl (fun h71 => ?_) (fun h71 => ?_)
      · refine R_iconst (q := 79) (v := nI 0) rfl rfl (by decide) ?_
        first
          | (have hk := zb_ne0.mp h71
             exact hon hk)
          | (have hk := zb_eq0.mp h71
             exact hoff hk)
      · refine R_iconst (q := 75) (v := nI 1) rfl rfl (by decide) ?_
        refine R_goto (t := 79) rfl rfl ?_
        first
          | (have hk := zb_ne0.mp h71
             exact hon hk)
          | (have hk := zb_eq0.mp h71
             exact hoff hk)
  refine R_aload_n (q := 1) rfl rfl rfl ?_
  refine R_iload_n (q := 2) rfl rfl rfl ?_
  refine R_iload_n (q := 3) rfl rfl rfl ?_
  refine R_iload_n (q := 4) rfl rfl rfl ?_
  refine R_callv3 (q := 7) rfl rfl rfl rfl md_73 (Nat.le_of_ble_eq_true rfl) rfl ?_
  refine R_mono (m173 (x := ln) (y := t0) rr1 hs6 (by omega) (by omega)) (fun v4 M4 hr4 => ?_)
  obtain ⟨rfl, hm4⟩ := hr4
  rw [hm4]
  dsimp only [Option.toList, List.cons_append, List.nil_append]
  refine R_if_ne (q := 10) (t := 11) rfl rfl rfl (fun h7 => ?_) (fun h7 => ?_)
  · refine R_iload (q := 13) rfl rfl rfl ?_
    refine R_if_eq (q := 16) (t := 20) rfl rfl rfl (fun h13 => ?_) (fun h13 => absurd rfl h13)
    refine R_iload_n (q := 21) rfl rfl rfl ?_
    refine R_istore (q := 23) rfl rfl (Nat.le_of_ble_eq_true rfl) rfl ?_
    dsimp only [List.set]
    refine R_iload (q := 25) rfl rfl rfl ?_
    refine R_istore (q := 27) rfl rfl (Nat.le_of_ble_eq_true rfl) rfl ?_
    dsimp only [List.set]
    refine R_iconst (q := 28) (v := nI 1) rfl rfl (by decide) ?_
    refine R_istore (q := 30) rfl rfl (Nat.le_of_ble_eq_true rfl) rfl ?_
    dsimp only [List.set]
    exact hlp (16 - t0) t0 none (by omega) (Nat.le_refl _) (fun z => absurd z (Nat.lt_irrefl _)) (zb_ne0.mp h7) rfl
  · refine R_return rfl rfl ?_
    refine ⟨rfl, (if_neg (fun q => ?_)).symm⟩
    have z := zb_eq0.mp h7
    have q1 : crn (sh s) ln t0 = true := q.1
    rw [z] at q1
    exact absurd q1 (by decide)
end P61
