theorem nI_0_of {s : Nat} (h : nI s = 0) (hs : s < 2147483648 := by omega) : s = 0 := (nI_eq (a := s) (b := 0) hs (by decide)).mp h
theorem nI_inj {a b : Nat} (ha : a < 2147483648) (hb : b < 2147483648) (h : nI a = nI b) : a = b := (nI_eq ha hb).mp h
theorem nI_lt_of {a b : Nat} (hb : a < 2147483648) (h : ¬ nI b ≤ nI a) : a < b := by
  rcases Nat.lt_or_ge a b with q | q
  · exact q
  · exact absurd (nI_le q hb) h
theorem nI_ge_of {a b : Nat} (ha : a < 2147483648) (hb : b < 2147483648) (h : nI b ≤ nI a) : ¬ a < b := fun q => nI_ge q hb h
section P25
variable {S : mm_S} {d : Nat} {M : mm_M} {l r f : Nat → Int32} {a : Nat}
set_option maxRecDepth 8000 in
theorem c84 (h : SVF M) (hl : CA M 31 l) (hr : CA M 33 r) (ha : CA M a f) (haa : a + 1 < 31 ∨ 34 < a) : mm_R S (d + 4) 84 0 (mm_en 84 [.ref 30, .ref a]) [] M (fun v M' => v = some (.int (nI (cgN false (ifl f l 16) r))) ∧ M' = sv M (cgL false (ifl f l 16) r) (cgR false (ifl f l 16) r)) := by
  refine R_atM (sv_self hl hr) ?_
  have h30 := sv_30 (l := l) (r := r) h
  have hl2 := sv_l (l := l) (r := r) h
  have hl1 := hl2.1
  have ha2 := sv_CA (l := l) (r := r) ha haa
  have g30 := sv_30 (l := ifl f l 16) (r := r) h
  show mm_R S (d + 4) 84 0 [some (.ref 30), some (.ref a)] [] (sv M l r) _
  refine R_aload_n (q := 1) rfl rfl rfl ?_
  refine R_getf (q := 4) rfl rfl rfl (by first | assumption | exact mm_pe | (rw [mm_pn (by omega)]; first | assumption | exact mm_pe | (rw [mm_pn (by omega)]; first | assumption | exact mm_pe | (rw [mm_pn (by omega)]; first | assumption | exact mm_pe | (rw [mm_pn (by omega)]; first | assumption | exact mm_pe | (rw [mm_pn (by omega)]; first | assumption | exact mm_pe)))))) rfl ?_
  refine R_aload_n (q := 5) rfl rfl rfl ?_
  refine R_callv1 (q := 8) rfl rfl rfl rfl hl1 (Nat.le_of_ble_eq_true rfl) rfl ?_
  refine R_mono (c8 hl2 ha2) (fun v5 M5 hr5 => ?_)
  obtain ⟨rfl, hm5⟩ := hr5
  rw [sv_pl] at hm5
  rw [hm5]
  dsimp only [Option.toList, List.cons_append, List.nil_append]
  refine R_aload_n (q := 9) rfl rfl rfl ?_
  refine R_iconst (q := 10) (v := nI 0) rfl rfl (by decide) ?_
  refine R_callv1 (q := 13) rfl rfl rfl rfl g30 (Nat.le_of_ble_eq_true rfl) rfl ?_
  refine R_mono (c86 (b := false) h) (fun v10 M10 hr10 => ?_)
  obtain ⟨rfl, hm10⟩ := hr10
  rw [hm10]
  dsimp only [Option.toList, List.cons_append, List.nil_append]
  refine R_ireturn rfl rfl ?_
  exact ⟨rfl, rfl⟩
def hL1 (l f : Nat → Int32) : Nat → Int32 := ifl (fun i => 65535 &&& (f i ^^^ (-1))) l 16
def hR3 (l r f : Nat → Int32) : Nat → Int32 := upd (upd (ifl (fun _ => nI 0) r 16) 0 (hL1 l f 0 &&& 65535)) 15 (hL1 l f 15 &&& 65535)
def hR4 (l r f : Nat → Int32) : Nat → Int32 := ifr (fun y => (hL1 l f y &&& 32769) &&& 65535) (hR3 l r f) 1 15
def hR5 (l r f : Nat → Int32) : Nat → Int32 := fld (hL1 l f) true 256 (hR4 l r f) (nI 1)
set_option maxRecDepth 8000 in
theorem c85 (h : SVF M) (hl : CA M 31 l) (hr : CA M 33 r) (ha : CA M a f) (haa : a + 1 < 31 ∨ 34 < a) : mm_R S (d + 4) 85 0 (mm_en 85 [.ref 30, .ref a]) [] M (fun v M' => v = some (.int (nI (cgN true (gout (hL1 l f) (hR5 l r f)) (hR5 l r f)))) ∧ M' = sv M (cgL true (gout (hL1 l f) (hR5 l r f)) (hR5 l r f)) (cgR true (gout (hL1 l f) (hR5 l r f)) (hR5 l r f))) := by
  refine R_atM (sv_self hl hr) ?_
  have h30 := fun l r => sv_30 (l := l) (r := r) h
  have hL := fun l r => sv_l (l := l) (r := r) h
  have hR := fun l r => sv_r (l := l) (r := r) h
  have ha2 := sv_CA (l := l) (r := r) ha haa
  show mm_R S (d + 4) 85 0 [some (.ref 30), some (.ref a), none] [] (sv M l r) _
  refine R_aload_n (q := 1) rfl rfl rfl ?_
  refine R_getf (q := 4) rfl rfl rfl (h30 _ _) rfl ?_
  refine R_aload_n (q := 5) rfl rfl rfl ?_
  refine R_callv1 (q := 8) rfl rfl rfl rfl (hL _ _).1 (Nat.le_of_ble_eq_true rfl) rfl ?_
  refine R_mono (c9 (hL _ _) ha2) (fun v5 M5 hr5 => ?_)
  obtain ⟨rfl, hm5⟩ := hr5
  rw [sv_pl] at hm5
  rw [hm5]
  dsimp only [Option.toList, List.cons_append, List.nil_append]
  refine R_aload_n (q := 9) rfl rfl rfl ?_
  refine R_getf (q := 12) rfl rfl rfl (h30 _ _) rfl ?_
  refine R_callv0 (q := 15) rfl rfl rfl rfl (hR _ _).1 (Nat.le_of_ble_eq_true rfl) rfl ?_
  refine R_mono (c7 (hR _ _)) (fun v12 M12 hr12 => ?_)
  obtain ⟨rfl, hm12⟩ := hr12
  rw [sv_pr] at hm12
  rw [hm12]
  dsimp only [Option.toList, List.cons_append, List.nil_append]
  refine R_aload_n (q := 16) rfl rfl rfl ?_
  refine R_getf (q := 19) rfl rfl rfl (h30 _ _) rfl ?_
  refine R_iconst (q := 20) (v := nI 0) rfl rfl (by decide) ?_
  refine R_aload_n (q := 21) rfl rfl rfl ?_
  refine R_getf (q := 24) rfl rfl rfl (h30 _ _) rfl ?_
  refine R_iconst (q := 25) (v := nI 0) rfl rfl (by decide) ?_
  refine R_callv1 (q := 28) rfl rfl rfl rfl (hL _ _).1 (Nat.le_of_ble_eq_true rfl) rfl ?_
  refine R_mono (c2 (hL _ _)) (fun v25 M25 hr25 => ?_)
  obtain ⟨rfl, hm25⟩ := hr25
  rw [hm25]
  dsimp only [Option.toList, List.cons_append, List.nil_append]
  rw [rowv_nI (by decide)]
  refine R_callv2 (q := 31) rfl rfl rfl rfl (hR _ _).1 (Nat.le_of_ble_eq_true rfl) rfl ?_
  refine R_mono (c6 (hR _ _)) (fun v28 M28 hr28 => ?_)
  obtain ⟨rfl, hm28⟩ := hr28
  rw [if_pos (by decide), sv_pr, cl_nI (by decide)] at hm28
  rw [hm28]
  dsimp only [Option.toList, List.cons_append, List.nil_append]
  refine R_aload_n (q := 32) rfl rfl rfl ?_
  refine R_getf (q := 35) rfl rfl rfl (h30 _ _) rfl ?_
  refine R_bipush (q := 37) (v := nI 15) rfl rfl (by decide) ?_
  refine R_aload_n (q := 38) rfl rfl rfl ?_
  refine R_getf (q := 41) rfl rfl rfl (h30 _ _) rfl ?_
  refine R_bipush (q := 43) (v := nI 15) rfl rfl (by decide) ?_
  refine R_callv1 (q := 46) rfl rfl rfl rfl (hL _ _).1 (Nat.le_of_ble_eq_true rfl) rfl ?_
  refine R_mono (c2 (hL _ _)) (fun v43 M43 hr43 => ?_)
  obtain ⟨rfl, hm43⟩ := hr43
  rw [hm43]
  dsimp only [Option.toList, List.cons_append, List.nil_append]
  rw [rowv_nI (by decide)]
  refine R_callv2 (q := 49) rfl rfl rfl rfl (hR _ _).1 (Nat.le_of_ble_eq_true rfl) rfl ?_
  refine R_mono (c6 (hR _ _)) (fun v46 M46 hr46 => ?_)
  obtain ⟨rfl, hm46⟩ := hr46
  rw [if_pos (by decide), sv_pr, cl_nI (by decide)] at hm46
  rw [hm46]
  dsimp only [Option.toList, List.cons_append, List.nil_append]
  refine R_iconst (q := 50) (v := nI 1) rfl rfl (by decide) ?_
  refine R_istore_n (q := 51) rfl rfl (Nat.le_of_ble_eq_true rfl) rfl ?_
  dsimp only [List.set]
  show mm_R S (d + 4) 85 51 [some (.ref 30), some (.ref a), some (.int (nI 1))] [] (sv M (hL1 l f) (hR3 l r f)) _
  refine R_atM (M' := sv M (hL1 l f) (ifr (fun y => (hL1 l f y &&& 32769) &&& 65535) (hR3 l r f) 1 1)) (by rw [ifr_0]) ?_
  refine lpM (fun y => mm_R S (d + 4) 85 51 [some (.ref 30), some (.ref a), some (.int (nI y))] [] (sv M (hL1 l f) (ifr (fun y => (hL1 l f y &&& 32769) &&& 65535) (hR3 l r f) 1 y)) (fun v M' => v = some (.int (nI (cgN true (gout (hL1 l f) (hR5 l r f)) (hR5 l r f)))) ∧ M' = sv M (cgL true (gout (hL1 l f) (hR5 l r f)) (hR5 l r f)) (cgR true (gout (hL1 l f) (hR5 l r f)) (hR5 l r f)))) 1 15 (fun y hy0 hy ih => ?_) ?_ 1 (Nat.le_refl _) (by decide)
  · skip
    refine R_iload_n (q := 52) rfl rfl rfl ?_
    refine R_bipush (q := 54) (v := nI 15) rfl rfl (by decide) ?_
    refine R_icmp_ge (q := 57) (t := 82) rfl rfl rfl (fun h54 => absurd h54 (nI_ge hy (by decide))) (fun h54 => ?_)
    refine R_aload_n (q := 58) rfl rfl rfl ?_
    refine R_getf (q := 61) rfl rfl rfl (h30 _ _) rfl ?_
    refine R_iload_n (q := 62) rfl rfl rfl ?_
    refine R_aload_n (q := 63) rfl rfl rfl ?_
    refine R_getf (q := 66) rfl rfl rfl (h30 _ _) rfl ?_
    refine R_iload_n (q := 67) rfl rfl rfl ?_
    refine R_callv1 (q := 70) rfl rfl rfl rfl (hL _ _).1 (Nat.le_of_ble_eq_true rfl) rfl ?_
    refine R_mono (c2 (hL _ _)) (fun v67 M67 hr67 => ?_)
    obtain ⟨rfl, hm67⟩ := hr67
    rw [hm67]
    dsimp only [Option.toList, List.cons_append, List.nil_append]
    rw [rowv_nI (by omega)]
    refine R_ldc (q := 72) (v := 32769) rfl rfl rfl ?_
    refine R_iand (q := 73) rfl rfl ?_
    refine R_callv2 (q := 76) rfl rfl rfl rfl (hR _ _).1 (Nat.le_of_ble_eq_true rfl) rfl ?_
    refine R_mono (c6 (hR _ _)) (fun v73 M73 hr73 => ?_)
    obtain ⟨rfl, hm73⟩ := hr73
    rw [if_pos (by rw [i_n y (by omega)]; omega), sv_pr, cl_nI (by omega)] at hm73
    rw [hm73]
    dsimp only [Option.toList, List.cons_append, List.nil_append]
    refine R_iinc (q := 79) rfl rfl rfl (nI_i1 y) rfl ?_
    dsimp only [List.set]
    refine R_goto (t := 51) rfl rfl ?_
    refine R_atM ?_ ih
    exact (congrArg (fun z => sv M (hL1 l f) z) (ifr_s (n := (fun y => (hL1 l f y &&& 32769) &&& 65535)) hy0)).symm
  · show mm_R S (d + 4) 85 51 [some (.ref 30), some (.ref a), some (.int (nI 15))] [] (sv M (hL1 l f) (hR4 l r f)) _
    refine R_iload_n (q := 52) rfl rfl rfl ?_
    refine R_bipush (q := 54) (v := nI 15) rfl rfl (by decide) ?_
    refine R_icmp_ge (q := 57) (t := 82) rfl rfl rfl (fun h54 => ?_) (fun h54 => absurd (nI_le (Nat.le_refl _) (by decide)) h54)
    refine R_aload_n (q := 83) rfl rfl rfl ?_
    refine R_iconst (q := 84) (v := nI 1) rfl rfl (by decide) ?_
    refine R_callv1 (q := 87) rfl rfl rfl rfl (h30 _ _) (Nat.le_of_ble_eq_true rfl) rfl ?_
    refine R_mono (R_deep (c87 (d := 0) (b := true) h) (by omega)) (fun v84 M84 hr84 => ?_)
    obtain ⟨rfl, hm84⟩ := hr84
    replace hm84 : M84 = sv M (hL1 l f) (hR5 l r f) := hm84
    rw [hm84]
    dsimp only [Option.toList, List.cons_append, List.nil_append]
    refine R_aload_n (q := 88) rfl rfl rfl ?_
    refine R_getf (q := 91) rfl rfl rfl (h30 _ _) rfl ?_
    refine R_aload_n (q := 92) rfl rfl rfl ?_
    refine R_getf (q := 95) rfl rfl rfl (h30 _ _) rfl ?_
    refine R_callv1 (q := 98) rfl rfl rfl rfl (hL _ _).1 (Nat.le_of_ble_eq_true rfl) rfl ?_
    refine R_mono (c11 (hL _ _) (hR _ _)) (fun v95 M95 hr95 => ?_)
    obtain ⟨rfl, hm95⟩ := hr95
    rw [sv_pl] at hm95
    replace hm95 : M95 = sv M (gout (hL1 l f) (hR5 l r f)) (hR5 l r f) := hm95
    rw [hm95]
    dsimp only [Option.toList, List.cons_append, List.nil_append]
    refine R_aload_n (q := 99) rfl rfl rfl ?_
    refine R_iconst (q := 100) (v := nI 1) rfl rfl (by decide) ?_
    refine R_callv1 (q := 103) rfl rfl rfl rfl (h30 _ _) (Nat.le_of_ble_eq_true rfl) rfl ?_
    refine R_mono (c86 (b := true) h) (fun v100 M100 hr100 => ?_)
    obtain ⟨rfl, hm100⟩ := hr100
    rw [hm100]
    dsimp only [Option.toList, List.cons_append, List.nil_append]
    refine R_ireturn rfl rfl ?_
    exact ⟨rfl, rfl⟩
def lkd (g : Bool) (bits : Int32) : Int32 := if g then (bits ^^^ (-1)) &&& 65535 else bits
def flen (lk : Int32) (s : Nat) (g : Bool) (w : Nat) : Nat := if bt lk s = false ∨ (0 < s ∧ bt lk (s - 1) = true) then 0 else if g = true ∧ (s = 0 ∨ re (bt lk) (16 - s) s = 16) then 0 else if re (bt lk) (16 - s) s - s < w then re (bt lk) (16 - s) s - s else 0
theorem re_ge (g : Nat → Bool) : ∀ n s, s ≤ re g n s ∧ re g n s ≤ s + n := by
  intro n
  induction n with
  | zero => intro s; exact ⟨Nat.le_refl _, Nat.le_refl _⟩
  | succ n ih =>
    intro s
    show s ≤ (if g s = true then re g n (s + 1) else s) ∧ (if g s = true then re g n (s + 1) else s) ≤ s + (n + 1)
    split
    · have := ih (s + 1); omega
    · omega
set_option maxRecDepth 8000 in
theorem c90 {bits : Int32} {s w : Nat} {g : Bool} (hs : s < 16) (hw : w < 100) : mm_R S (d + 2) 90 0 (mm_en 90 [.int bits, .int (nI s), .int (zb g), .int (nI w)]) [] M (fun v M' => v = some (.int (nI (flen (lkd g bits) s g w))) ∧ M' = M) := by
  have hre := re_ge (bt (lkd g bits)) (16 - s) s
  have hmain : ∀ t5 : Option Value, mm_R S (d + 2) 90 16 [some (.int bits), some (.int (nI s)), some (.int (zb g)), some (.int (nI w)), some (.int (lkd g bits)), t5] [] M (fun v M' => v = some (.int (nI (flen (lkd g bits) s g w))) ∧ M' = M) := by
    generalize lkd g bits = lk at *
    intro t5
    have hz : ∀ v : Nat, v = flen lk s g w → (some (Value.int (nI v)) = some (.int (nI (flen lk s g w))) ∧ M = M) := fun v hv => ⟨by rw [hv], rfl⟩
    have h67 : ¬ (bt lk s = false ∨ (0 < s ∧ bt lk (s - 1) = true)) → ¬ (g = true ∧ (s = 0 ∨ re (bt lk) (16 - s) s = 16)) → mm_R S (d + 2) 90 67 [some (.int bits), some (.int (nI s)), some (.int (zb g)), some (.int (nI w)), some (.int lk), some (.int (nI (re (bt lk) (16 - s) s)))] [] M (fun v M' => v = some (.int (nI (flen lk s g w))) ∧ M' = M) := by
      intro hn1 hn2
      refine R_iload (q := 69) rfl rfl rfl ?_
      refine R_iload_n (q := 70) rfl rfl rfl ?_
      refine R_isub (q := 71) rfl rfl ?_
      rw [pk_sub hre.1]
      refine R_iload_n (q := 72) rfl rfl rfl ?_
      refine R_icmp_ge (q := 75) (t := 82) rfl rfl rfl (fun h72 => ?_) (fun h72 => ?_)
      · refine R_iconst (q := 83) (v := nI 0) rfl rfl (by decide) ?_
        refine R_ireturn rfl rfl ?_
        refine hz _ ?_
        unfold flen
        rw [if_neg hn1, if_neg hn2]
        first
          | exact (if_pos (nI_lt_of (by omega) h72)).symm
          | exact (if_neg (nI_ge_of (by omega) (by omega) h72)).symm
      · refine R_iload (q := 77) rfl rfl rfl ?_
        refine R_iload_n (q := 78) rfl rfl rfl ?_
        refine R_isub (q := 79) rfl rfl ?_
        rw [pk_sub hre.1]
        refine R_goto (t := 83) rfl rfl ?_
        refine R_ireturn rfl rfl ?_
        refine hz _ ?_
        unfold flen
        rw [if_neg hn1, if_neg hn2]
        first
          | exact (if_pos (nI_lt_of (by omega) h72)).symm
          | exact (if_neg (nI_ge_of (by omega) (by omega) h72)).symm
    have h42 : ∀ t5 : Option Value, ¬ (bt lk s = false ∨ (0 < s ∧ bt lk (s - 1) = true)) → mm_R S (d + 2) 90 42 [some (.int bits), some (.int (nI s)), some (.int (zb g)), some (.int (nI w)), some (.int lk), t5] [] M (fun v M' => v = some (.int (nI (flen lk s g w))) ∧ M' = M) := by
      intro t5 hn1
      have h67 := fun (_ : Unit) => h67 hn1
      refine R_iload (q := 44) rfl rfl rfl ?_
      refine R_iload_n (q := 45) rfl rfl rfl ?_
      refine R_calls2 (q := 48) rfl rfl rfl rfl (Nat.le_of_ble_eq_true rfl) rfl ?_
      refine R_mono (c144 (by omega)) (fun v45 M45 hr45 => ?_)
      obtain ⟨rfl, hm45⟩ := hr45
      rw [hm45]
      dsimp only [Option.toList, List.cons_append, List.nil_append]
      refine R_istore (q := 50) rfl rfl (Nat.le_of_ble_eq_true rfl) rfl ?_
      dsimp only [List.set]
      refine R_iload_n (q := 51) rfl rfl rfl ?_
      refine R_if_eq (q := 54) (t := 67) rfl rfl rfl (fun h51 => ?_) (fun h51 => ?_)
      · exact h67 () (by
          rintro ⟨q1, q2⟩
          first
            | (rw [zb_eq0.mp h51] at q1; cases q1; done)
            | (rcases q2 with q2 | q2
               · exact h55 (by rw [q2]; rfl)
               · exact h62 (by rw [q2])))
      · refine R_iload_n (q := 55) rfl rfl rfl ?_
        refine R_if_eq (q := 58) (t := 65) rfl rfl rfl (fun h55 => ?_) (fun h55 => ?_)
        · refine R_iconst (q := 66) (v := nI 0) rfl rfl (by decide) ?_
          refine R_ireturn rfl rfl ?_
          refine hz _ ?_
          unfold flen
          rw [if_neg hn1]
          by_cases hs0 : s = 0
          · exact (if_pos ⟨zb_ne0.mp h51, Or.inl hs0⟩).symm
          · have h16 : re (bt lk) (16 - s) s = 16 := nI_inj (by omega) (by decide) (by first | exact h62 | exact absurd (nI_0_of h55) hs0)
            exact (if_pos ⟨zb_ne0.mp h51, Or.inr h16⟩).symm
        · refine R_iload (q := 60) rfl rfl rfl ?_
          refine R_bipush (q := 62) (v := nI 16) rfl rfl (by decide) ?_
          refine R_icmp_ne (q := 65) (t := 67) rfl rfl rfl (fun h62 => ?_) (fun h62 => ?_)
          · exact h67 () (by
              rintro ⟨q1, q2⟩
              first
                | (rw [zb_eq0.mp h51] at q1; cases q1; done)
                | (rcases q2 with q2 | q2
                   · exact h55 (by rw [q2]; rfl)
                   · exact h62 (by rw [q2])))
          · refine R_iconst (q := 66) (v := nI 0) rfl rfl (by decide) ?_
            refine R_ireturn rfl rfl ?_
            refine hz _ ?_
            unfold flen
            rw [if_neg hn1]
            by_cases hs0 : s = 0
            · exact (if_pos ⟨zb_ne0.mp h51, Or.inl hs0⟩).symm
            · have h16 : re (bt lk) (16 - s) s = 16 := nI_inj (by omega) (by decide) (by first | exact h62 | exact absurd (nI_0_of h55) hs0)
              exact (if_pos ⟨zb_ne0.mp h51, Or.inr h16⟩).symm
    refine R_iload (q := 18) rfl rfl rfl ?_
    refine R_iload_n (q := 19) rfl rfl rfl ?_
    refine R_calls2 (q := 22) rfl rfl rfl rfl (Nat.le_of_ble_eq_true rfl) rfl ?_
    refine R_mono (c142 (by omega)) (fun v19 M19 hr19 => ?_)
    obtain ⟨rfl, hm19⟩ := hr19
    rw [hm19]
    dsimp only [Option.toList, List.cons_append, List.nil_append]
    refine R_if_eq (q := 25) (t := 40) rfl rfl rfl (fun h22 => ?_) (fun h22 => ?_)
    · refine R_iconst (q := 41) (v := nI 0) rfl rfl (by decide) ?_
      refine R_ireturn rfl rfl ?_
      first | exact hz _ (if_pos (Or.inl (zb_eq0.mp h22))).symm | exact hz _ (if_pos (Or.inr ⟨hs1, zb_ne0.mp h37⟩)).symm
    · refine R_iload_n (q := 26) rfl rfl rfl ?_
      refine R_if_le (q := 29) (t := 42) rfl rfl rfl (fun h26 => ?_) (fun h26 => ?_)
      · exact h42 _ (by
          rintro (q | ⟨q1, q2⟩)
          · rw [zb_ne0.mp h22] at q; cases q
          · first
              | (rw [zb_eq0.mp h37] at q2; cases q2)
              | exact absurd h26 (nI_nle q1 (by omega)))
      · refine R_iload (q := 31) rfl rfl rfl ?_
        refine R_iload_n (q := 32) rfl rfl rfl ?_
        refine R_iconst (q := 33) (v := nI 1) rfl rfl (by decide) ?_
        refine R_isub (q := 34) rfl rfl ?_
        have hs1 : 0 < s := by
          rcases Nat.eq_zero_or_pos s with q | q
          · subst q; exact absurd (by decide) h26
          · exact q
        rw [pk_sub (by omega)]
        refine R_calls2 (q := 37) rfl rfl rfl rfl (Nat.le_of_ble_eq_true rfl) rfl ?_
        refine R_mono (c142 (by omega)) (fun v34 M34 hr34 => ?_)
        obtain ⟨rfl, hm34⟩ := hr34
        rw [hm34]
        dsimp only [Option.toList, List.cons_append, List.nil_append]
        refine R_if_eq (q := 40) (t := 42) rfl rfl rfl (fun h37 => ?_) (fun h37 => ?_)
        · exact h42 _ (by
            rintro (q | ⟨q1, q2⟩)
            · rw [zb_ne0.mp h22] at q; cases q
            · first
                | (rw [zb_eq0.mp h37] at q2; cases q2)
                | exact absurd h26 (nI_nle q1 (by omega)))
        · refine R_iconst (q := 41) (v := nI 0) rfl rfl (by decide) ?_
          refine R_ireturn rfl rfl ?_
          first | exact hz _ (if_pos (Or.inl (zb_eq0.mp h22))).symm | exact hz _ (if_pos (Or.inr ⟨hs1, zb_ne0.mp h37⟩)).symm
  show mm_R S (d + 2) 90 0 [some (.int bits), some (.int (nI s)), some (.int (zb g)), some (.int (nI w)), none, none] [] M _
  refine R_iload_n (q := 1) rfl rfl rfl ?_
  refine R_if_eq (q := 4) (t := 13) rfl rfl rfl (fun h1 => ?_) (fun h1 => ?_)
  · refine R_iload_n (q := 14) rfl rfl rfl ?_
    refine R_istore (q := 16) rfl rfl (Nat.le_of_ble_eq_true rfl) rfl ?_
    dsimp only [List.set]
    first
      | (have eg := zb_eq0.mp h1
         subst eg
         exact hmain _)
      | (have eg := zb_ne0.mp h1
         subst eg
         exact hmain _)
  · refine R_iload_n (q := 5) rfl rfl rfl ?_
    refine R_iconst (q := 6) (v := (-1)) rfl rfl (by decide) ?_
    refine R_ixor (q := 7) rfl rfl ?_
    refine R_ldc (q := 9) (v := 65535) rfl rfl rfl ?_
    refine R_iand (q := 10) rfl rfl ?_
    refine R_goto (t := 14) rfl rfl ?_
    refine R_istore (q := 16) rfl rfl (Nat.le_of_ble_eq_true rfl) rfl ?_
    dsimp only [List.set]
    first
      | (have eg := zb_eq0.mp h1
         subst eg
         exact hmain _)
      | (have eg := zb_ne0.mp h1
         subst eg
         exact hmain _)
end P25
