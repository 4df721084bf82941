/-! ===== the desk's own calls, II: the layout, rings ===== -/
def upc {α : Type} (f : Nat → α) (c : Nat) (v : α) : Nat → α := fun k => if k = c then v else f k
section P38
variable {S : mm_S} {d : Nat} {M M' : mm_M} {sh : Nat → Nat → Int32} {o : OS} {l : LYS} {pi fa tp : IS}
theorem upc_e {α : Type} {f : Nat → α} {c : Nat} {v : α} : upc f c v c = v := if_pos rfl
theorem upc_n {α : Type} {f : Nat → α} {c k : Nat} {v : α} (h : ¬ k = c) : upc f c v k = f k := if_neg h
theorem LYP_u {nb np : Nat → Nat} {bx pl : Nat → Nat → Int32} {c n1 n2 : Nat} {b' p' : Nat → Int32} (hp : LYP M nb np bx pl) (h1 : M'.1 (12 + 3 * c) = some (.inr (6, [.ref (12 + 3 * c + 1), .ref (12 + 3 * c + 2), .int (nI n1), .int (nI n2)]))) (h2 : M'.1 (12 + 3 * c + 1) = some (.inl (0, 24, .inl b'))) (h3 : M'.1 (12 + 3 * c + 2) = some (.inl (0, 32, .inl p'))) (hn1 : n1 ≤ 6) (hn2 : n2 ≤ 4) (hf : ∀ k, 12 ≤ k ∧ k ≤ 29 → (k < 12 + 3 * c ∨ 12 + 3 * c + 2 < k) → M'.1 k = M.1 k) : LYP M' (upc nb c n1) (upc np c n2) (upc bx c b') (upc pl c p') := by
  intro k hk
  by_cases hq : k = c
  · subst hq
    rw [upc_e, upc_e, upc_e, upc_e]
    exact ⟨h1, h2, h3, hn1, hn2⟩
  · rw [upc_n hq, upc_n hq, upc_n hq, upc_n hq]
    obtain ⟨g1, g2, g3, g4⟩ := hp k hk
    exact ⟨by rw [hf _ (by omega) (by omega)]; exact g1, by rw [hf _ (by omega) (by omega)]; exact g2, by rw [hf _ (by omega) (by omega)]; exact g3, g4⟩
theorem LYV_u {nb np : Nat → Nat} {bx pl : Nat → Nat → Int32} {c n1 n2 : Nat} {b' p' : Nat → Int32} (hv : LYV nb np bx pl) (h1 : ∀ k, k < n1 → bxok b' k) (h2 : ∀ k, k < n2 → plok c p' k) : LYV (upc nb c n1) (upc np c n2) (upc bx c b') (upc pl c p') := by
  intro k hk
  by_cases hq : k = c
  · subst hq
    rw [upc_e, upc_e, upc_e, upc_e]
    exact ⟨h1, h2⟩
  · rw [upc_n hq, upc_n hq, upc_n hq, upc_n hq]
    exact hv k hk
theorem up4_o {p : Nat → Int32} {k j : Nat} {x y w h : Int32} (hj : j < k ∨ k + 3 < j) : up4 p k x y w h j = p j := by
  unfold up4 upd
  rw [if_neg (by omega), if_neg (by omega), if_neg (by omega), if_neg (by omega)]
theorem up4_0 {p : Nat → Int32} {k : Nat} {x y w h : Int32} : up4 p k x y w h (k + 0) = x := by
  unfold up4 upd
  rw [if_neg (by omega), if_neg (by omega), if_neg (by omega), if_pos (by omega)]
theorem up4_1 {p : Nat → Int32} {k : Nat} {x y w h : Int32} : up4 p k x y w h (k + 1) = y := by
  unfold up4 upd
  rw [if_neg (by omega), if_neg (by omega), if_pos (by omega)]
theorem up4_2 {p : Nat → Int32} {k : Nat} {x y w h : Int32} : up4 p k x y w h (k + 2) = w := by
  unfold up4 upd
  rw [if_neg (by omega), if_pos (by omega)]
theorem up4_3 {p : Nat → Int32} {k : Nat} {x y w h : Int32} : up4 p k x y w h (k + 3) = h := by
  unfold up4 upd
  rw [if_pos (by omega)]
theorem bxok_u {p : Nat → Int32} {n : Nat} {x y w h : Int32} (hp : ∀ k, k < n → bxok p k) (hx : upt x 16 ∧ upt y 16 ∧ btw w 1 16 ∧ btw h 1 16) : ∀ k, k < n + 1 → bxok (up4 p (n * 4) x y w h) k := by
  intro k hk
  by_cases hq : k = n
  · subst hq
    unfold bxok sm
    rw [up4_0, up4_1, up4_2, up4_3]
    exact ⟨⟨hx.1, hx.2.1⟩, hx.2.2.1, hx.2.2.2⟩
  · have g := hp k (by omega)
    unfold bxok at g ⊢
    rw [up4_o (by omega), up4_o (by omega), up4_o (by omega), up4_o (by omega)]
    exact g
theorem upn_o {p g : Nat → Int32} {k i : Nat} : ∀ n, (i < k ∨ k + n ≤ i) → upn p g k n i = p i := by
  intro n
  induction n with
  | zero => intro h; rfl
  | succ n ih =>
    intro h
    unfold upn upd
    rw [if_neg (by omega)]
    exact ih (by omega)
theorem upn_i {p g : Nat → Int32} {k j : Nat} : ∀ n, j < n → upn p g k n (k + j) = g j := by
  intro n
  induction n with
  | zero => intro h; omega
  | succ n ih =>
    intro h
    unfold upn upd
    by_cases hq : j = n
    · subst hq; rw [if_pos rfl]
    · rw [if_neg (by omega)]
      exact ih (by omega)
theorem upn_c {p g g' : Nat → Int32} {k n : Nat} (h : ∀ j, j < n → g j = g' j) : upn p g k n = upn p g' k n := by
  funext i
  by_cases hi : i < k ∨ k + n ≤ i
  · rw [upn_o n hi, upn_o n hi]
  · obtain ⟨j, rfl⟩ : ∃ j, i = k + j := ⟨i - k, by omega⟩
    rw [upn_i n (by omega), upn_i n (by omega)]
    exact h j (by omega)
theorem plok_u {p g : Nat → Int32} {c n z : Nat} {a b : Int32} (hp : ∀ k, k < n → plok c p k) (hz : z < c) (hc : c < 6) (hg : nwk g) (ha : btw a 1 4) (hb' : btw b 1 4) : ∀ k, k < n + 1 → plok c (upn p (upd (upd (upd g 0 (nI z)) 6 a) 7 b) (n * 8) 8) k := by
  intro k hk
  by_cases hq : k = n
  · subst hq
    obtain ⟨A, hA, rfl⟩ := i_ix (a := a) 5 (by decide) (by omega) (by omega)
    obtain ⟨B, hB, rfl⟩ := i_ix (a := b) 5 (by decide) (by omega) (by omega)
    have ha1 := ha.1
    have hb1 := hb'.1
    rw [i_n A (by omega)] at ha1
    rw [i_n B (by omega)] at hb1
    unfold plok pq
    rw [upn_i 8 (by decide), upn_i 8 (by decide), upn_i 8 (by decide), upn_i 8 (by decide), upn_i 8 (by decide), upn_i 8 (by decide), upn_i 8 (by decide), upn_i 8 (by decide)]
    unfold upd
    simp only [show ¬ (0 = 7) by decide, show ¬ (0 = 6) by decide, show ¬ (1 = 7) by decide, show ¬ (1 = 6) by decide, show ¬ (1 = 0) by decide, show ¬ (2 = 7) by decide, show ¬ (2 = 6) by decide, show ¬ (2 = 0) by decide, show ¬ (3 = 7) by decide, show ¬ (3 = 6) by decide, show ¬ (3 = 0) by decide, show ¬ (4 = 7) by decide, show ¬ (4 = 6) by decide, show ¬ (4 = 0) by decide, show ¬ (5 = 7) by decide, show ¬ (5 = 6) by decide, show ¬ (5 = 0) by decide, show ¬ (6 = 7) by decide, if_true, if_false]
    rw [cl_nI (by omega), cl_nI (by omega), cl_nI (by omega)]
    exact ⟨⟨rfl, hz⟩, hg.1, hg.2.1, hg.2.2, ⟨rfl, by omega, by omega⟩, rfl, by omega, by omega⟩
  · have h := hp k (by omega)
    unfold plok pq at h ⊢
    rw [upn_o 8 (by omega), upn_o 8 (by omega), upn_o 8 (by omega), upn_o 8 (by omega), upn_o 8 (by omega), upn_o 8 (by omega), upn_o 8 (by omega), upn_o 8 (by omega)]
    exact h
set_option maxRecDepth 8000 in
theorem c124 {c x y w h1 : Int32} (h : CI M sh o l pi fa tp) : mm_R S (d + 2) 124 0 (mm_en 124 [.ref 1, .int c, .int x, .int y, .int w, .int h1]) [] M (fun v M' => FR M M' ∧ YN v ((shp c ∧ upt x 16 ∧ upt y 16 ∧ btw w 1 16 ∧ btw h1 1 16) ∧ l.1 (sn c) < 6) (CI M' sh o (upc l.1 (sn c) (l.1 (sn c) + 1), upc l.2.1 (sn c) (l.2.1 (sn c)), upc l.2.2.1 (sn c) (up4 (l.2.2.1 (sn c)) (l.1 (sn c) * 4) x y w h1), upc l.2.2.2.1 (sn c) (l.2.2.2.1 (sn c)), l.2.2.2.2) pi fa tp) (CI M' sh o l pi fa tp)) := by
  show mm_R S (d + 2) 124 0 [some (.ref 1), some (.int c), some (.int x), some (.int y), some (.int w), some (.int h1)] [] M _
  obtain ⟨hq1, sf, hq2, hsf⟩ := ci_0 h
  obtain ⟨hl1, hl2, hl3, hl4, hl5, hl6⟩ := ci_l h
  refine R_iload_n (q := 1) rfl rfl rfl ?_
  refine R_calls1 (q := 4) rfl rfl rfl rfl (Nat.le_of_ble_eq_true rfl) rfl ?_
  refine R_mono (c140) (fun v1 M1 hr1 => ?_)
  obtain ⟨rfl, hm1⟩ := hr1
  rw [hm1]
  dsimp only [Option.toList, List.cons_append, List.nil_append]
  refine R_if_eq (q := 7) (t := 25) rfl rfl rfl (fun h4 => ?_) (fun h4 => ?_)
  · refine R_iconst (q := 26) (v := nI 0) rfl rfl (by decide) ?_
    refine R_zreturn rfl rfl (by first | exact Or.inl rfl | exact Or.inr rfl | assumption) ?_
    first
      | exact ⟨FR_r, Or.inr ⟨(fun hP => absurd hP.1.1 (of_decide_eq_false (zb_eq0.mp h4))), rfl, h⟩⟩
      | exact ⟨FR_r, Or.inr ⟨(fun hP => absurd hP.1.2.1 (of_decide_eq_false (zb_eq0.mp h13))), rfl, h⟩⟩
      | exact ⟨FR_r, Or.inr ⟨(fun hP => absurd hP.1.2.2.1 (of_decide_eq_false (zb_eq0.mp h22))), rfl, h⟩⟩
  · refine R_iload_n (q := 8) rfl rfl rfl ?_
    refine R_bipush (q := 10) (v := nI 16) rfl rfl (by decide) ?_
    refine R_calls2 (q := 13) rfl rfl rfl rfl (Nat.le_of_ble_eq_true rfl) rfl ?_
    refine R_mono (c141 (by decide)) (fun v10 M10 hr10 => ?_)
    obtain ⟨rfl, hm10⟩ := hr10
    rw [hm10]
    dsimp only [Option.toList, List.cons_append, List.nil_append]
    refine R_if_eq (q := 16) (t := 25) rfl rfl rfl (fun h13 => ?_) (fun h13 => ?_)
    · refine R_iconst (q := 26) (v := nI 0) rfl rfl (by decide) ?_
      refine R_zreturn rfl rfl (by first | exact Or.inl rfl | exact Or.inr rfl | assumption) ?_
      first
        | exact ⟨FR_r, Or.inr ⟨(fun hP => absurd hP.1.1 (of_decide_eq_false (zb_eq0.mp h4))), rfl, h⟩⟩
        | exact ⟨FR_r, Or.inr ⟨(fun hP => absurd hP.1.2.1 (of_decide_eq_false (zb_eq0.mp h13))), rfl, h⟩⟩
        | exact ⟨FR_r, Or.inr ⟨(fun hP => absurd hP.1.2.2.1 (of_decide_eq_false (zb_eq0.mp h22))), rfl, h⟩⟩
    · refine R_iload_n (q := 17) rfl rfl rfl ?_
      refine R_bipush (q := 19) (v := nI 16) rfl rfl (by decide) ?_
      refine R_calls2 (q := 22) rfl rfl rfl rfl (Nat.le_of_ble_eq_true rfl) rfl ?_
      refine R_mono (c141 (by decide)) (fun v19 M19 hr19 => ?_)
      obtain ⟨rfl, hm19⟩ := hr19
      rw [hm19]
      dsimp only [Option.toList, List.cons_append, List.nil_append]
      refine R_if_ne (q := 25) (t := 27) rfl rfl rfl (fun h22 => ?_) (fun h22 => ?_)
      · refine R_iload (q := 29) rfl rfl rfl ?_
        refine R_iconst (q := 30) (v := nI 1) rfl rfl (by decide) ?_
        refine R_icmp_lt (q := 33) (t := 53) rfl rfl rfl (fun h30 => ?_) (fun h30 => ?_)
        · refine R_iconst (q := 54) (v := nI 0) rfl rfl (by decide) ?_
          refine R_zreturn rfl rfl (by first | exact Or.inl rfl | exact Or.inr rfl | assumption) ?_
          first
            | exact ⟨FR_r, Or.inr ⟨(fun hP => by have q1 := hP.1.2.2.2.1; rw [i_lt, ik_1] at h30; omega), rfl, h⟩⟩
            | exact ⟨FR_r, Or.inr ⟨(fun hP => by have q1 := hP.1.2.2.2.1; rw [i_lt, ik_16] at h37; omega), rfl, h⟩⟩
            | exact ⟨FR_r, Or.inr ⟨(fun hP => by have q1 := hP.1.2.2.2.2; rw [i_lt, ik_1] at h43; omega), rfl, h⟩⟩
            | exact ⟨FR_r, Or.inr ⟨(fun hP => by have q1 := hP.1.2.2.2.2; rw [i_le, ik_16] at h50; omega), rfl, h⟩⟩
        · refine R_iload (q := 35) rfl rfl rfl ?_
          refine R_bipush (q := 37) (v := nI 16) rfl rfl (by decide) ?_
          refine R_icmp_gt (q := 40) (t := 53) rfl rfl rfl (fun h37 => ?_) (fun h37 => ?_)
          · refine R_iconst (q := 54) (v := nI 0) rfl rfl (by decide) ?_
            refine R_zreturn rfl rfl (by first | exact Or.inl rfl | exact Or.inr rfl | assumption) ?_
            first
              | exact ⟨FR_r, Or.inr ⟨(fun hP => by have q1 := hP.1.2.2.2.1; rw [i_lt, ik_1] at h30; omega), rfl, h⟩⟩
              | exact ⟨FR_r, Or.inr ⟨(fun hP => by have q1 := hP.1.2.2.2.1; rw [i_lt, ik_16] at h37; omega), rfl, h⟩⟩
              | exact ⟨FR_r, Or.inr ⟨(fun hP => by have q1 := hP.1.2.2.2.2; rw [i_lt, ik_1] at h43; omega), rfl, h⟩⟩
              | exact ⟨FR_r, Or.inr ⟨(fun hP => by have q1 := hP.1.2.2.2.2; rw [i_le, ik_16] at h50; omega), rfl, h⟩⟩
          · refine R_iload (q := 42) rfl rfl rfl ?_
            refine R_iconst (q := 43) (v := nI 1) rfl rfl (by decide) ?_
            refine R_icmp_lt (q := 46) (t := 53) rfl rfl rfl (fun h43 => ?_) (fun h43 => ?_)
            · refine R_iconst (q := 54) (v := nI 0) rfl rfl (by decide) ?_
              refine R_zreturn rfl rfl (by first | exact Or.inl rfl | exact Or.inr rfl | assumption) ?_
              first
                | exact ⟨FR_r, Or.inr ⟨(fun hP => by have q1 := hP.1.2.2.2.1; rw [i_lt, ik_1] at h30; omega), rfl, h⟩⟩
                | exact ⟨FR_r, Or.inr ⟨(fun hP => by have q1 := hP.1.2.2.2.1; rw [i_lt, ik_16] at h37; omega), rfl, h⟩⟩
                | exact ⟨FR_r, Or.inr ⟨(fun hP => by have q1 := hP.1.2.2.2.2; rw [i_lt, ik_1] at h43; omega), rfl, h⟩⟩
                | exact ⟨FR_r, Or.inr ⟨(fun hP => by have q1 := hP.1.2.2.2.2; rw [i_le, ik_16] at h50; omega), rfl, h⟩⟩
            · refine R_iload (q := 48) rfl rfl rfl ?_
              refine R_bipush (q := 50) (v := nI 16) rfl rfl (by decide) ?_
              refine R_icmp_le (q := 53) (t := 55) rfl rfl rfl (fun h50 => ?_) (fun h50 => ?_)
              · have hP0 : shp c ∧ upt x 16 ∧ upt y 16 ∧ btw w 1 16 ∧ btw h1 1 16 := ⟨of_decide_eq_true (zb_ne0.mp h4), of_decide_eq_true (zb_ne0.mp h13), of_decide_eq_true (zb_ne0.mp h22), by rw [i_lt, ik_1] at h30; rw [i_lt, ik_16] at h37; exact ⟨by omega, by omega⟩, by rw [i_lt, ik_1] at h43; rw [i_le, ik_16] at h50; exact ⟨by omega, by omega⟩⟩
                obtain ⟨k, hk, rfl⟩ := i_ix (a := c) 6 (by decide) hP0.1.1 hP0.1.2
                have e1 : sn (nI k) = k := cl_nI (by omega)
                rw [e1]
                have hpk := hl2 k hk
                by_cases hn : l.1 k < 6
                · refine R_aload_n (q := 56) rfl rfl rfl ?_
                  refine R_getf (q := 59) rfl rfl rfl hq1 rfl ?_
                  refine R_iload_n (q := 60) rfl rfl rfl ?_
                  refine R_iload_n (q := 61) rfl rfl rfl ?_
                  refine R_iload_n (q := 62) rfl rfl rfl ?_
                  refine R_iload (q := 64) rfl rfl rfl ?_
                  refine R_iload (q := 66) rfl rfl rfl ?_
                  refine R_callv5 (q := 69) rfl rfl rfl rfl hl1.1 (Nat.le_of_ble_eq_true rfl) rfl ?_
                  refine R_mono (c54 hl1 hl2 hk hn) (fun v66 M66 hr66 => ?_)
                  obtain ⟨rfl, hm66⟩ := hr66
                  rw [hm66]
                  dsimp only [Option.toList, List.cons_append, List.nil_append]
                  refine R_zreturn rfl rfl (by first | exact Or.inl rfl | exact Or.inr rfl | assumption) ?_
                  refine ⟨⟨rfl, fun k1 hk1 => by rw [mm_pn (by omega), mm_pn (by omega)]⟩, Or.inl ⟨⟨hP0, hn⟩, rfl, ?_⟩⟩
                  refine CI_l h ⟨LYH_c hl1 (fun k1 a b => by rw [mm_pn (by omega), mm_pn (by omega)]), LYP_u hl2 mm_pe (by rw [mm_pn (by omega)]; exact mm_pe) (by rw [mm_pn (by omega), mm_pn (by omega)]; exact hpk.2.2.1) (by omega) hpk.2.2.2.2 (fun k1 _ b => by rw [mm_pn (by omega), mm_pn (by omega)]), LYV_u hl3 (bxok_u (hl3 k hk).1 hP0.2) (hl3 k hk).2, ?_, ?_, hl6⟩ (fun k1 hk1 => by rw [mm_pn (by omega), mm_pn (by omega)])
                  · rw [mm_pn (by omega), mm_pn (by omega)]; exact hl4
                  · rw [mm_pn (by omega), mm_pn (by omega)]; exact hl5
                · refine R_aload_n (q := 56) rfl rfl rfl ?_
                  refine R_getf (q := 59) rfl rfl rfl hq1 rfl ?_
                  refine R_iload_n (q := 60) rfl rfl rfl ?_
                  refine R_iload_n (q := 61) rfl rfl rfl ?_
                  refine R_iload_n (q := 62) rfl rfl rfl ?_
                  refine R_iload (q := 64) rfl rfl rfl ?_
                  refine R_iload (q := 66) rfl rfl rfl ?_
                  refine R_callv5 (q := 69) rfl rfl rfl rfl hl1.1 (Nat.le_of_ble_eq_true rfl) rfl ?_
                  refine R_mono (c54_full hl1 hl2 hk (by have := hpk.2.2.2.1; omega)) (fun v66 M66 hr66 => ?_)
                  obtain ⟨rfl, hm66⟩ := hr66
                  rw [hm66]
                  dsimp only [Option.toList, List.cons_append, List.nil_append]
                  refine R_zreturn rfl rfl (by first | exact Or.inl rfl | exact Or.inr rfl | assumption) ?_
                  exact ⟨FR_r, Or.inr ⟨(fun hP => hn hP.2), rfl, h⟩⟩
              · refine R_iconst (q := 54) (v := nI 0) rfl rfl (by decide) ?_
                refine R_zreturn rfl rfl (by first | exact Or.inl rfl | exact Or.inr rfl | assumption) ?_
                first
                  | exact ⟨FR_r, Or.inr ⟨(fun hP => by have q1 := hP.1.2.2.2.1; rw [i_lt, ik_1] at h30; omega), rfl, h⟩⟩
                  | exact ⟨FR_r, Or.inr ⟨(fun hP => by have q1 := hP.1.2.2.2.1; rw [i_lt, ik_16] at h37; omega), rfl, h⟩⟩
                  | exact ⟨FR_r, Or.inr ⟨(fun hP => by have q1 := hP.1.2.2.2.2; rw [i_lt, ik_1] at h43; omega), rfl, h⟩⟩
                  | exact ⟨FR_r, Or.inr ⟨(fun hP => by have q1 := hP.1.2.2.2.2; rw [i_le, ik_16] at h50; omega), rfl, h⟩⟩
      · refine R_iconst (q := 26) (v := nI 0) rfl rfl (by decide) ?_
        refine R_zreturn rfl rfl (by first | exact Or.inl rfl | exact Or.inr rfl | assumption) ?_
        first
          | exact ⟨FR_r, Or.inr ⟨(fun hP => absurd hP.1.1 (of_decide_eq_false (zb_eq0.mp h4))), rfl, h⟩⟩
          | exact ⟨FR_r, Or.inr ⟨(fun hP => absurd hP.1.2.1 (of_decide_eq_false (zb_eq0.mp h13))), rfl, h⟩⟩
          | exact ⟨FR_r, Or.inr ⟨(fun hP => absurd hP.1.2.2.1 (of_decide_eq_false (zb_eq0.mp h22))), rfl, h⟩⟩
set_option maxRecDepth 8000 in
theorem c125 {x y t : Int32} (h : CI M sh o l pi fa tp) : mm_R S (d + 1) 125 0 (mm_en 125 [.ref 1, .int x, .int y, .int t]) [] M (fun v M' => FR M M' ∧ YN v ((upt x 16 ∧ upt y 16) ∧ btw t 0 7) (CI M' sh o (l.1, l.2.1, l.2.2.1, l.2.2.2.1, upd (upd (upd l.2.2.2.2 2 x) 3 y) 1 t) pi fa tp) (CI M' sh o l pi fa tp)) := by
  show mm_R S (d + 1) 125 0 [some (.ref 1), some (.int x), some (.int y), some (.int t)] [] M _
  obtain ⟨hq1, sf, hq2, hsf⟩ := ci_0 h
  obtain ⟨hl1, hl2, hl3, hl4, ⟨cm, hl5, hl7⟩, hl6⟩ := ci_l h
  refine R_iload_n (q := 1) rfl rfl rfl ?_
  refine R_bipush (q := 3) (v := nI 16) rfl rfl (by decide) ?_
  refine R_calls2 (q := 6) rfl rfl rfl rfl (Nat.le_of_ble_eq_true rfl) rfl ?_
  refine R_mono (c141 (by decide)) (fun v3 M3 hr3 => ?_)
  obtain ⟨rfl, hm3⟩ := hr3
  rw [hm3]
  dsimp only [Option.toList, List.cons_append, List.nil_append]
  refine R_if_eq (q := 9) (t := 28) rfl rfl rfl (fun h6 => ?_) (fun h6 => ?_)
  · refine R_iconst (q := 29) (v := nI 0) rfl rfl (by decide) ?_
    refine R_zreturn rfl rfl (by first | exact Or.inl rfl | exact Or.inr rfl | assumption) ?_
    first
      | exact ⟨FR_r, Or.inr ⟨(fun hP => absurd hP.1.1 (of_decide_eq_false (zb_eq0.mp h6))), rfl, h⟩⟩
      | exact ⟨FR_r, Or.inr ⟨(fun hP => absurd hP.1.2 (of_decide_eq_false (zb_eq0.mp h15))), rfl, h⟩⟩
      | exact ⟨FR_r, Or.inr ⟨(fun hP => by have q1 := hP.2; rw [i_lt, i_0] at h19; omega), rfl, h⟩⟩
      | exact ⟨FR_r, Or.inr ⟨(fun hP => by have q1 := hP.2; rw [i_le, ik_7] at h25; omega), rfl, h⟩⟩
  · refine R_iload_n (q := 10) rfl rfl rfl ?_
    refine R_bipush (q := 12) (v := nI 16) rfl rfl (by decide) ?_
    refine R_calls2 (q := 15) rfl rfl rfl rfl (Nat.le_of_ble_eq_true rfl) rfl ?_
    refine R_mono (c141 (by decide)) (fun v12 M12 hr12 => ?_)
    obtain ⟨rfl, hm12⟩ := hr12
    rw [hm12]
    dsimp only [Option.toList, List.cons_append, List.nil_append]
    refine R_if_eq (q := 18) (t := 28) rfl rfl rfl (fun h15 => ?_) (fun h15 => ?_)
    · refine R_iconst (q := 29) (v := nI 0) rfl rfl (by decide) ?_
      refine R_zreturn rfl rfl (by first | exact Or.inl rfl | exact Or.inr rfl | assumption) ?_
      first
        | exact ⟨FR_r, Or.inr ⟨(fun hP => absurd hP.1.1 (of_decide_eq_false (zb_eq0.mp h6))), rfl, h⟩⟩
        | exact ⟨FR_r, Or.inr ⟨(fun hP => absurd hP.1.2 (of_decide_eq_false (zb_eq0.mp h15))), rfl, h⟩⟩
        | exact ⟨FR_r, Or.inr ⟨(fun hP => by have q1 := hP.2; rw [i_lt, i_0] at h19; omega), rfl, h⟩⟩
        | exact ⟨FR_r, Or.inr ⟨(fun hP => by have q1 := hP.2; rw [i_le, ik_7] at h25; omega), rfl, h⟩⟩
    · refine R_iload_n (q := 19) rfl rfl rfl ?_
      refine R_if_lt (q := 22) (t := 28) rfl rfl rfl (fun h19 => ?_) (fun h19 => ?_)
      · refine R_iconst (q := 29) (v := nI 0) rfl rfl (by decide) ?_
        refine R_zreturn rfl rfl (by first | exact Or.inl rfl | exact Or.inr rfl | assumption) ?_
        first
          | exact ⟨FR_r, Or.inr ⟨(fun hP => absurd hP.1.1 (of_decide_eq_false (zb_eq0.mp h6))), rfl, h⟩⟩
          | exact ⟨FR_r, Or.inr ⟨(fun hP => absurd hP.1.2 (of_decide_eq_false (zb_eq0.mp h15))), rfl, h⟩⟩
          | exact ⟨FR_r, Or.inr ⟨(fun hP => by have q1 := hP.2; rw [i_lt, i_0] at h19; omega), rfl, h⟩⟩
          | exact ⟨FR_r, Or.inr ⟨(fun hP => by have q1 := hP.2; rw [i_le, ik_7] at h25; omega), rfl, h⟩⟩
      · refine R_iload_n (q := 23) rfl rfl rfl ?_
        refine R_bipush (q := 25) (v := nI 7) rfl rfl (by decide) ?_
        refine R_icmp_le (q := 28) (t := 30) rfl rfl rfl (fun h25 => ?_) (fun h25 => ?_)
        · have hP : (upt x 16 ∧ upt y 16) ∧ btw t 0 7 := ⟨⟨of_decide_eq_true (zb_ne0.mp h6), of_decide_eq_true (zb_ne0.mp h15)⟩, by rw [i_lt, i_0] at h19; rw [i_le, ik_7] at h25; exact ⟨by omega, by omega⟩⟩
          refine R_aload_n (q := 31) rfl rfl rfl ?_
          refine R_getf (q := 34) rfl rfl rfl hq1 rfl ?_
          refine R_iload_n (q := 35) rfl rfl rfl ?_
          refine R_iload_n (q := 36) rfl rfl rfl ?_
          refine R_iload_n (q := 37) rfl rfl rfl ?_
          refine R_callv3 (q := 40) rfl rfl rfl rfl hl1.1 (Nat.le_of_ble_eq_true rfl) rfl ?_
          refine R_mono (c55 hl1 hl5) (fun v37 M37 hr37 => ?_)
          obtain ⟨rfl, hm37⟩ := hr37
          rw [hm37]
          dsimp only [Option.toList, List.cons_append, List.nil_append]
          refine R_iconst (q := 41) (v := nI 1) rfl rfl (by decide) ?_
          refine R_zreturn rfl rfl (by first | exact Or.inl rfl | exact Or.inr rfl | assumption) ?_
          refine ⟨FR_p (by decide), Or.inl ⟨hP, rfl, ?_⟩⟩
          refine CI_l h ⟨LYH_off hl1 (by omega), LYP_off hl2 (by omega), hl3, ?_, ⟨_, mm_pe, ?_⟩, ?_⟩ (fun k hk => mm_pn (by omega))
          · rw [mm_pn (by decide)]; exact hl4
          · intro f hf1 hf2
            show upd (upd (upd cm 2 x) 3 y) 1 t f = upd (upd (upd l.2.2.2.2 2 x) 3 y) 1 t f
            unfold upd
            rw [hl7 f hf1 hf2]
          · obtain ⟨A, hA, rfl⟩ := i_ix (a := t) 8 (by decide) hP.2.1 (by have := hP.2.2; omega)
            exact ⟨⟨by show nI A = nI (nI A).toNatClampNeg; rw [cl_nI (by omega)], by show (nI A).toNatClampNeg < 8; rw [cl_nI (by omega)]; exact hA⟩, hP.1, hl6.2.2⟩
        · refine R_iconst (q := 29) (v := nI 0) rfl rfl (by decide) ?_
          refine R_zreturn rfl rfl (by first | exact Or.inl rfl | exact Or.inr rfl | assumption) ?_
          first
            | exact ⟨FR_r, Or.inr ⟨(fun hP => absurd hP.1.1 (of_decide_eq_false (zb_eq0.mp h6))), rfl, h⟩⟩
            | exact ⟨FR_r, Or.inr ⟨(fun hP => absurd hP.1.2 (of_decide_eq_false (zb_eq0.mp h15))), rfl, h⟩⟩
            | exact ⟨FR_r, Or.inr ⟨(fun hP => by have q1 := hP.2; rw [i_lt, i_0] at h19; omega), rfl, h⟩⟩
            | exact ⟨FR_r, Or.inr ⟨(fun hP => by have q1 := hP.2; rw [i_le, ik_7] at h25; omega), rfl, h⟩⟩
set_option maxRecDepth 8000 in
theorem c126 {x y : Int32} (h : CI M sh o l pi fa tp) : mm_R S (d + 1) 126 0 (mm_en 126 [.ref 1, .int x, .int y]) [] M (fun v M' => FR M M' ∧ YN v (upt x 16 ∧ upt y 16) (CI M' sh o (l.1, l.2.1, l.2.2.1, l.2.2.2.1, upd (upd l.2.2.2.2 4 x) 5 y) pi fa tp) (CI M' sh o l pi fa tp)) := by
  show mm_R S (d + 1) 126 0 [some (.ref 1), some (.int x), some (.int y)] [] M _
  obtain ⟨hq1, sf, hq2, hsf⟩ := ci_0 h
  obtain ⟨hl1, hl2, hl3, hl4, ⟨cm, hl5, hl7⟩, hl6⟩ := ci_l h
  refine R_iload_n (q := 1) rfl rfl rfl ?_
  refine R_bipush (q := 3) (v := nI 16) rfl rfl (by decide) ?_
  refine R_calls2 (q := 6) rfl rfl rfl rfl (Nat.le_of_ble_eq_true rfl) rfl ?_
  refine R_mono (c141 (by decide)) (fun v3 M3 hr3 => ?_)
  obtain ⟨rfl, hm3⟩ := hr3
  rw [hm3]
  dsimp only [Option.toList, List.cons_append, List.nil_append]
  refine R_if_eq (q := 9) (t := 18) rfl rfl rfl (fun h6 => ?_) (fun h6 => ?_)
  · refine R_iconst (q := 19) (v := nI 0) rfl rfl (by decide) ?_
    refine R_zreturn rfl rfl (by first | exact Or.inl rfl | exact Or.inr rfl | assumption) ?_
    first
      | exact ⟨FR_r, Or.inr ⟨(fun hP => absurd hP.1 (of_decide_eq_false (zb_eq0.mp h6))), rfl, h⟩⟩
      | exact ⟨FR_r, Or.inr ⟨(fun hP => absurd hP.2 (of_decide_eq_false (zb_eq0.mp h15))), rfl, h⟩⟩
  · refine R_iload_n (q := 10) rfl rfl rfl ?_
    refine R_bipush (q := 12) (v := nI 16) rfl rfl (by decide) ?_
    refine R_calls2 (q := 15) rfl rfl rfl rfl (Nat.le_of_ble_eq_true rfl) rfl ?_
    refine R_mono (c141 (by decide)) (fun v12 M12 hr12 => ?_)
    obtain ⟨rfl, hm12⟩ := hr12
    rw [hm12]
    dsimp only [Option.toList, List.cons_append, List.nil_append]
    refine R_if_ne (q := 18) (t := 20) rfl rfl rfl (fun h15 => ?_) (fun h15 => ?_)
    · have hP : upt x 16 ∧ upt y 16 := ⟨of_decide_eq_true (zb_ne0.mp h6), of_decide_eq_true (zb_ne0.mp h15)⟩
      refine R_aload_n (q := 21) rfl rfl rfl ?_
      refine R_getf (q := 24) rfl rfl rfl hq1 rfl ?_
      refine R_iload_n (q := 25) rfl rfl rfl ?_
      refine R_iload_n (q := 26) rfl rfl rfl ?_
      refine R_callv2 (q := 29) rfl rfl rfl rfl hl1.1 (Nat.le_of_ble_eq_true rfl) rfl ?_
      refine R_mono (c56 hl1 hl5) (fun v26 M26 hr26 => ?_)
      obtain ⟨rfl, hm26⟩ := hr26
      rw [hm26]
      dsimp only [Option.toList, List.cons_append, List.nil_append]
      refine R_iconst (q := 30) (v := nI 1) rfl rfl (by decide) ?_
      refine R_zreturn rfl rfl (by first | exact Or.inl rfl | exact Or.inr rfl | assumption) ?_
      refine ⟨FR_p (by decide), Or.inl ⟨hP, rfl, ?_⟩⟩
      refine CI_l h ⟨LYH_off hl1 (by omega), LYP_off hl2 (by omega), hl3, ?_, ⟨_, mm_pe, ?_⟩, ?_⟩ (fun k hk => mm_pn (by omega))
      · rw [mm_pn (by decide)]; exact hl4
      · intro f hf1 hf2
        show upd (upd cm 4 x) 5 y f = upd (upd l.2.2.2.2 4 x) 5 y f
        unfold upd
        rw [hl7 f hf1 hf2]
      · exact ⟨hl6.1, hl6.2.1, hP⟩
    · refine R_iconst (q := 19) (v := nI 0) rfl rfl (by decide) ?_
      refine R_zreturn rfl rfl (by first | exact Or.inl rfl | exact Or.inr rfl | assumption) ?_
      first
        | exact ⟨FR_r, Or.inr ⟨(fun hP => absurd hP.1 (of_decide_eq_false (zb_eq0.mp h6))), rfl, h⟩⟩
        | exact ⟨FR_r, Or.inr ⟨(fun hP => absurd hP.2 (of_decide_eq_false (zb_eq0.mp h15))), rfl, h⟩⟩
set_option maxRecDepth 8000 in
theorem c127 {c z x y : Int32} (h : CI M sh o l pi fa tp) : mm_R S (d + 2) 127 0 (mm_en 127 [.ref 1, .int c, .int z, .int x, .int y]) [] M (fun v M' => FR M M' ∧ YN v (((shp c ∧ shp z ∧ z.toInt < c.toInt) ∧ btw x 1 4 ∧ btw y 1 4) ∧ l.2.1 (sn c) < 4) (CI M' sh o (upc l.1 (sn c) (l.1 (sn c)), upc l.2.1 (sn c) (l.2.1 (sn c) + 1), upc l.2.2.1 (sn c) (l.2.2.1 (sn c)), upc l.2.2.2.1 (sn c) (upn (l.2.2.2.1 (sn c)) (upd (upd (upd l.2.2.2.2 0 z) 6 x) 7 y) (l.2.1 (sn c) * 8) 8), l.2.2.2.2) pi fa tp) (CI M' sh o l pi fa tp)) := by
  show mm_R S (d + 2) 127 0 [some (.ref 1), some (.int c), some (.int z), some (.int x), some (.int y)] [] M _
  obtain ⟨hq1, sf, hq2, hsf⟩ := ci_0 h
  obtain ⟨hl1, hl2, hl3, hl4, ⟨cm, hl5, hl7⟩, hl6⟩ := ci_l h
  refine R_iload_n (q := 1) rfl rfl rfl ?_
  refine R_calls1 (q := 4) rfl rfl rfl rfl (Nat.le_of_ble_eq_true rfl) rfl ?_
  refine R_mono (c140) (fun v1 M1 hr1 => ?_)
  obtain ⟨rfl, hm1⟩ := hr1
  rw [hm1]
  dsimp only [Option.toList, List.cons_append, List.nil_append]
  refine R_if_eq (q := 7) (t := 19) rfl rfl rfl (fun h4 => ?_) (fun h4 => ?_)
  · refine R_iconst (q := 20) (v := nI 0) rfl rfl (by decide) ?_
    refine R_zreturn rfl rfl (by first | exact Or.inl rfl | exact Or.inr rfl | assumption) ?_
    first
      | exact ⟨FR_r, Or.inr ⟨(fun hP => absurd hP.1.1.1 (of_decide_eq_false (zb_eq0.mp h4))), rfl, h⟩⟩
      | exact ⟨FR_r, Or.inr ⟨(fun hP => absurd hP.1.1.2.1 (of_decide_eq_false (zb_eq0.mp h11))), rfl, h⟩⟩
      | exact ⟨FR_r, Or.inr ⟨(fun hP => by have q1 := hP.1.1.2.2; rw [i_lt] at h16; omega), rfl, h⟩⟩
  · refine R_iload_n (q := 8) rfl rfl rfl ?_
    refine R_calls1 (q := 11) rfl rfl rfl rfl (Nat.le_of_ble_eq_true rfl) rfl ?_
    refine R_mono (c140) (fun v8 M8 hr8 => ?_)
    obtain ⟨rfl, hm8⟩ := hr8
    rw [hm8]
    dsimp only [Option.toList, List.cons_append, List.nil_append]
    refine R_if_eq (q := 14) (t := 19) rfl rfl rfl (fun h11 => ?_) (fun h11 => ?_)
    · refine R_iconst (q := 20) (v := nI 0) rfl rfl (by decide) ?_
      refine R_zreturn rfl rfl (by first | exact Or.inl rfl | exact Or.inr rfl | assumption) ?_
      first
        | exact ⟨FR_r, Or.inr ⟨(fun hP => absurd hP.1.1.1 (of_decide_eq_false (zb_eq0.mp h4))), rfl, h⟩⟩
        | exact ⟨FR_r, Or.inr ⟨(fun hP => absurd hP.1.1.2.1 (of_decide_eq_false (zb_eq0.mp h11))), rfl, h⟩⟩
        | exact ⟨FR_r, Or.inr ⟨(fun hP => by have q1 := hP.1.1.2.2; rw [i_lt] at h16; omega), rfl, h⟩⟩
    · refine R_iload_n (q := 15) rfl rfl rfl ?_
      refine R_iload_n (q := 16) rfl rfl rfl ?_
      refine R_icmp_lt (q := 19) (t := 21) rfl rfl rfl (fun h16 => ?_) (fun h16 => ?_)
      · refine R_iload_n (q := 22) rfl rfl rfl ?_
        refine R_iconst (q := 23) (v := nI 1) rfl rfl (by decide) ?_
        refine R_icmp_lt (q := 26) (t := 43) rfl rfl rfl (fun h23 => ?_) (fun h23 => ?_)
        · refine R_iconst (q := 44) (v := nI 0) rfl rfl (by decide) ?_
          refine R_zreturn rfl rfl (by first | exact Or.inl rfl | exact Or.inr rfl | assumption) ?_
          first
            | exact ⟨FR_r, Or.inr ⟨(fun hP => by have q1 := hP.1.2.1; rw [i_lt, ik_1] at h23; omega), rfl, h⟩⟩
            | exact ⟨FR_r, Or.inr ⟨(fun hP => by have q1 := hP.1.2.1; rw [i_lt, ik_4] at h28; omega), rfl, h⟩⟩
            | exact ⟨FR_r, Or.inr ⟨(fun hP => by have q1 := hP.1.2.2; rw [i_lt, ik_1] at h34; omega), rfl, h⟩⟩
            | exact ⟨FR_r, Or.inr ⟨(fun hP => by have q1 := hP.1.2.2; rw [i_le, ik_4] at h40; omega), rfl, h⟩⟩
        · refine R_iload_n (q := 27) rfl rfl rfl ?_
          refine R_iconst (q := 28) (v := nI 4) rfl rfl (by decide) ?_
          refine R_icmp_gt (q := 31) (t := 43) rfl rfl rfl (fun h28 => ?_) (fun h28 => ?_)
          · refine R_iconst (q := 44) (v := nI 0) rfl rfl (by decide) ?_
            refine R_zreturn rfl rfl (by first | exact Or.inl rfl | exact Or.inr rfl | assumption) ?_
            first
              | exact ⟨FR_r, Or.inr ⟨(fun hP => by have q1 := hP.1.2.1; rw [i_lt, ik_1] at h23; omega), rfl, h⟩⟩
              | exact ⟨FR_r, Or.inr ⟨(fun hP => by have q1 := hP.1.2.1; rw [i_lt, ik_4] at h28; omega), rfl, h⟩⟩
              | exact ⟨FR_r, Or.inr ⟨(fun hP => by have q1 := hP.1.2.2; rw [i_lt, ik_1] at h34; omega), rfl, h⟩⟩
              | exact ⟨FR_r, Or.inr ⟨(fun hP => by have q1 := hP.1.2.2; rw [i_le, ik_4] at h40; omega), rfl, h⟩⟩
          · refine R_iload (q := 33) rfl rfl rfl ?_
            refine R_iconst (q := 34) (v := nI 1) rfl rfl (by decide) ?_
            refine R_icmp_lt (q := 37) (t := 43) rfl rfl rfl (fun h34 => ?_) (fun h34 => ?_)
            · refine R_iconst (q := 44) (v := nI 0) rfl rfl (by decide) ?_
              refine R_zreturn rfl rfl (by first | exact Or.inl rfl | exact Or.inr rfl | assumption) ?_
              first
                | exact ⟨FR_r, Or.inr ⟨(fun hP => by have q1 := hP.1.2.1; rw [i_lt, ik_1] at h23; omega), rfl, h⟩⟩
                | exact ⟨FR_r, Or.inr ⟨(fun hP => by have q1 := hP.1.2.1; rw [i_lt, ik_4] at h28; omega), rfl, h⟩⟩
                | exact ⟨FR_r, Or.inr ⟨(fun hP => by have q1 := hP.1.2.2; rw [i_lt, ik_1] at h34; omega), rfl, h⟩⟩
                | exact ⟨FR_r, Or.inr ⟨(fun hP => by have q1 := hP.1.2.2; rw [i_le, ik_4] at h40; omega), rfl, h⟩⟩
            · refine R_iload (q := 39) rfl rfl rfl ?_
              refine R_iconst (q := 40) (v := nI 4) rfl rfl (by decide) ?_
              refine R_icmp_le (q := 43) (t := 45) rfl rfl rfl (fun h40 => ?_) (fun h40 => ?_)
              · have hP0 : (shp c ∧ shp z ∧ z.toInt < c.toInt) ∧ btw x 1 4 ∧ btw y 1 4 := ⟨⟨of_decide_eq_true (zb_ne0.mp h4), of_decide_eq_true (zb_ne0.mp h11), by rw [i_lt] at h16; exact h16⟩, by rw [i_lt, ik_1] at h23; rw [i_lt, ik_4] at h28; exact ⟨by omega, by omega⟩, by rw [i_lt, ik_1] at h34; rw [i_le, ik_4] at h40; exact ⟨by omega, by omega⟩⟩
                obtain ⟨k, hk, rfl⟩ := i_ix (a := c) 6 (by decide) hP0.1.1.1 hP0.1.1.2
                obtain ⟨k2, hk2, rfl⟩ := i_ix (a := z) 6 (by decide) hP0.1.2.1.1 hP0.1.2.1.2
                have e1 : sn (nI k) = k := cl_nI (by omega)
                have hkk : k2 < k := by have q1 := hP0.1.2.2; rw [i_n k (by omega), i_n k2 (by omega)] at q1; omega
                have hcm : upn (l.2.2.2.1 k) (upd (upd (upd cm 0 (nI k2)) 6 x) 7 y) (l.2.1 k * 8) 8 = upn (l.2.2.2.1 k) (upd (upd (upd l.2.2.2.2 0 (nI k2)) 6 x) 7 y) (l.2.1 k * 8) 8 := upn_c (fun j hj => by
                  unfold upd
                  by_cases j7 : j = 7
                  · rw [if_pos j7, if_pos j7]
                  · rw [if_neg j7, if_neg j7]
                    by_cases j6 : j = 6
                    · rw [if_pos j6, if_pos j6]
                    · rw [if_neg j6, if_neg j6]
                      by_cases j0 : j = 0
                      · rw [if_pos j0, if_pos j0]
                      · rw [if_neg j0, if_neg j0]
                        exact hl7 j (by omega) (by omega))
                rw [e1]
                have hpk := hl2 k hk
                by_cases hn : l.2.1 k < 4
                · refine R_aload_n (q := 46) rfl rfl rfl ?_
                  refine R_getf (q := 49) rfl rfl rfl hq1 rfl ?_
                  refine R_iload_n (q := 50) rfl rfl rfl ?_
                  refine R_iload_n (q := 51) rfl rfl rfl ?_
                  refine R_iload_n (q := 52) rfl rfl rfl ?_
                  refine R_iload (q := 54) rfl rfl rfl ?_
                  refine R_callv4 (q := 57) rfl rfl rfl rfl hl1.1 (Nat.le_of_ble_eq_true rfl) rfl ?_
                  refine R_mono (c57 hl1 hl2 hl5 hk hn) (fun v54 M54 hr54 => ?_)
                  obtain ⟨rfl, hm54⟩ := hr54
                  rw [hm54]
                  dsimp only [Option.toList, List.cons_append, List.nil_append]
                  rw [hcm]
                  refine R_zreturn rfl rfl (by first | exact Or.inl rfl | exact Or.inr rfl | assumption) ?_
                  refine ⟨⟨rfl, fun k1 hk1 => by rw [mm_pn (by omega), mm_pn (by omega), mm_pn (by omega)]⟩, Or.inl ⟨⟨hP0, hn⟩, rfl, ?_⟩⟩
                  refine CI_l h ⟨LYH_c hl1 (fun k1 a b => by rw [mm_pn (by omega), mm_pn (by omega), mm_pn (by omega)]), LYP_u hl2 mm_pe (by rw [mm_pn (by omega), mm_pn (by omega), mm_pn (by omega)]; exact hpk.2.1) (by rw [mm_pn (by omega)]; exact mm_pe) hpk.2.2.2.1 (by omega) (fun k1 a b => by rw [mm_pn (by omega), mm_pn (by omega), mm_pn (by omega)]), LYV_u hl3 (hl3 k hk).1 (plok_u (hl3 k hk).2 hkk hk hl6 hP0.2.1 hP0.2.2), ?_, ⟨upd (upd (upd cm 0 (nI k2)) 6 x) 7 y, ?_, ?_⟩, hl6⟩ (fun k1 hk1 => by rw [mm_pn (by omega), mm_pn (by omega), mm_pn (by omega)])
                  · rw [mm_pn (by omega), mm_pn (by omega), mm_pn (by omega)]; exact hl4
                  · rw [mm_pn (by omega), mm_pn (by omega)]; exact mm_pe
                  · intro f hf1 hf2
                    unfold upd
                    rw [if_neg (by omega), if_neg (by omega), if_neg (by omega)]
                    exact hl7 f hf1 hf2
                · refine R_aload_n (q := 46) rfl rfl rfl ?_
                  refine R_getf (q := 49) rfl rfl rfl hq1 rfl ?_
                  refine R_iload_n (q := 50) rfl rfl rfl ?_
                  refine R_iload_n (q := 51) rfl rfl rfl ?_
                  refine R_iload_n (q := 52) rfl rfl rfl ?_
                  refine R_iload (q := 54) rfl rfl rfl ?_
                  refine R_callv4 (q := 57) rfl rfl rfl rfl hl1.1 (Nat.le_of_ble_eq_true rfl) rfl ?_
                  refine R_mono (c57_full hl1 hl2 hl5 hk (by have := hpk.2.2.2.2; omega)) (fun v54 M54 hr54 => ?_)
                  obtain ⟨rfl, hm54⟩ := hr54
                  rw [hm54]
                  dsimp only [Option.toList, List.cons_append, List.nil_append]
                  refine R_zreturn rfl rfl (by first | exact Or.inl rfl | exact Or.inr rfl | assumption) ?_
                  refine ⟨FR_p (by decide), Or.inr ⟨(fun hP => hn hP.2), rfl, ?_⟩⟩
                  refine CI_l h ⟨LYH_off hl1 (by omega), LYP_off hl2 (by omega), hl3, ?_, ⟨_, mm_pe, ?_⟩, hl6⟩ (fun k hk => mm_pn (by omega))
                  · rw [mm_pn (by decide)]; exact hl4
                  · intro f hf1 hf2
                    unfold upd
                    rw [if_neg (by omega), if_neg (by omega), if_neg (by omega)]
                    exact hl7 f hf1 hf2
              · refine R_iconst (q := 44) (v := nI 0) rfl rfl (by decide) ?_
                refine R_zreturn rfl rfl (by first | exact Or.inl rfl | exact Or.inr rfl | assumption) ?_
                first
                  | exact ⟨FR_r, Or.inr ⟨(fun hP => by have q1 := hP.1.2.1; rw [i_lt, ik_1] at h23; omega), rfl, h⟩⟩
                  | exact ⟨FR_r, Or.inr ⟨(fun hP => by have q1 := hP.1.2.1; rw [i_lt, ik_4] at h28; omega), rfl, h⟩⟩
                  | exact ⟨FR_r, Or.inr ⟨(fun hP => by have q1 := hP.1.2.2; rw [i_lt, ik_1] at h34; omega), rfl, h⟩⟩
                  | exact ⟨FR_r, Or.inr ⟨(fun hP => by have q1 := hP.1.2.2; rw [i_le, ik_4] at h40; omega), rfl, h⟩⟩
      · refine R_iconst (q := 20) (v := nI 0) rfl rfl (by decide) ?_
        refine R_zreturn rfl rfl (by first | exact Or.inl rfl | exact Or.inr rfl | assumption) ?_
        first
          | exact ⟨FR_r, Or.inr ⟨(fun hP => absurd hP.1.1.1 (of_decide_eq_false (zb_eq0.mp h4))), rfl, h⟩⟩
          | exact ⟨FR_r, Or.inr ⟨(fun hP => absurd hP.1.1.2.1 (of_decide_eq_false (zb_eq0.mp h11))), rfl, h⟩⟩
          | exact ⟨FR_r, Or.inr ⟨(fun hP => by have q1 := hP.1.1.2.2; rw [i_lt] at h16; omega), rfl, h⟩⟩
set_option maxRecDepth 8000 in
theorem c128 {c : Int32} (h : CI M sh o l pi fa tp) : mm_R S (d + 2) 128 0 (mm_en 128 [.ref 1, .int c]) [] M (fun v M' => FR M M' ∧ YN v (shp c) (CI M' sh o (upc l.1 (sn c) 0, upc l.2.1 (sn c) 0, upc l.2.2.1 (sn c) (l.2.2.1 (sn c)), upc l.2.2.2.1 (sn c) (l.2.2.2.1 (sn c)), l.2.2.2.2) pi fa tp) (CI M' sh o l pi fa tp)) := by
  show mm_R S (d + 2) 128 0 [some (.ref 1), some (.int c)] [] M _
  obtain ⟨hq1, sf, hq2, hsf⟩ := ci_0 h
  obtain ⟨hl1, hl2, hl3, hl4, hl5, hl6⟩ := ci_l h
  refine R_iload_n (q := 1) rfl rfl rfl ?_
  refine R_calls1 (q := 4) rfl rfl rfl rfl (Nat.le_of_ble_eq_true rfl) rfl ?_
  refine R_mono (c140) (fun v1 M1 hr1 => ?_)
  obtain ⟨rfl, hm1⟩ := hr1
  rw [hm1]
  dsimp only [Option.toList, List.cons_append, List.nil_append]
  refine R_if_ne (q := 7) (t := 9) rfl rfl rfl (fun h4 => ?_) (fun h4 => ?_)
  · have hP : shp c := of_decide_eq_true (zb_ne0.mp h4)
    obtain ⟨k, hk, rfl⟩ := i_ix (a := c) 6 (by decide) hP.1 hP.2
    have e1 : sn (nI k) = k := cl_nI (by omega)
    rw [e1]
    have hpk := hl2 k hk
    refine R_aload_n (q := 10) rfl rfl rfl ?_
    refine R_getf (q := 13) rfl rfl rfl hq1 rfl ?_
    refine R_iload_n (q := 14) rfl rfl rfl ?_
    refine R_callv1 (q := 17) rfl rfl rfl rfl hl1.1 (Nat.le_of_ble_eq_true rfl) rfl ?_
    refine R_mono (c58 hl1 hl2 hk) (fun v14 M14 hr14 => ?_)
    obtain ⟨rfl, hm14⟩ := hr14
    rw [hm14]
    dsimp only [Option.toList, List.cons_append, List.nil_append]
    refine R_iconst (q := 18) (v := nI 1) rfl rfl (by decide) ?_
    refine R_zreturn rfl rfl (by first | exact Or.inl rfl | exact Or.inr rfl | assumption) ?_
    refine ⟨FR_p (by omega), Or.inl ⟨hP, rfl, ?_⟩⟩
    refine CI_l h ⟨LYH_off hl1 (by omega), LYP_u hl2 mm_pe (by rw [mm_pn (by omega)]; exact hpk.2.1) (by rw [mm_pn (by omega)]; exact hpk.2.2.1) (by decide) (by decide) (fun k1 a b => mm_pn (by omega)), LYV_u hl3 (fun k1 hk1 => by omega) (fun k1 hk1 => by omega), ?_, ?_, hl6⟩ (fun k1 hk1 => mm_pn (by omega))
    · rw [mm_pn (by omega)]; exact hl4
    · rw [mm_pn (by omega)]; exact hl5
  · refine R_iconst (q := 8) (v := nI 0) rfl rfl (by decide) ?_
    refine R_zreturn rfl rfl (by first | exact Or.inl rfl | exact Or.inr rfl | assumption) ?_
    first
      | exact ⟨FR_r, Or.inr ⟨(fun hP => absurd hP (of_decide_eq_false (zb_eq0.mp h4))), rfl, h⟩⟩
theorem gi_pt {n : Nat} {X Y : Nat → Nat} {f f' : Nat → Int32} : ∀ k i, f i = f' i → gi n X Y f k i = gi n X Y f' k i := by
  intro k
  induction k with
  | zero => intro i h; exact h
  | succ k ih =>
    intro i h
    unfold gi ifr
    dsimp only
    rw [ih i h]
theorem hb_gi {n : Nat} {X Y : Nat → Nat} {f : Nat → Int32} : ∀ k i, hb (f i) → hb (gi n X Y f k i) := by
  intro k
  induction k with
  | zero => intro i h; exact h
  | succ k ih =>
    intro i h
    unfold gi ifr
    dsimp only
    split
    · exact hb_andr hb_m
    · exact ih i h
/-- the shape with a ring's inside -/
def rgs (f : Nat → Int32) (o : OS) : Nat → Int32 := ifl (fun i => f i ||| gi o.1 (oX o.2.1) (oX o.2.2) (fun _ => nI 0) o.1 i) f 16
theorem ifl_c {f g g' : Nat → Int32} {n : Nat} (h : ∀ i, i < n → g i = g' i) : ifl g f n = ifl g' f n := by
  funext i
  unfold ifl
  split
  · exact h i (by assumption)
  · rfl
theorem CI_4 {g : Nat → Int32} (h : CI M sh o l pi fa tp) : CI (mm_put M 4 (ro g)) sh o l pi fa tp := by
  obtain ⟨f, hf⟩ := ci_s h
  exact CI_s h ⟨g, ⟨by rw [mm_pn (by decide)]; exact hf.1, mm_pe⟩⟩ (fun k hk => mm_pn (by omega))
theorem CI_5 (h : CI M sh o l pi fa tp) : CI (mm_put M 5 (.inr (5, [.ref (5 + 1), .ref (5 + 2), .int (nI 0)]))) sh (0, o.2) l pi fa tp := by
  obtain ⟨h1, h2⟩ := ci_o h
  exact CI_o h ⟨⟨mm_pe, by rw [mm_pn (by decide)]; exact h1.2.1, by rw [mm_pn (by decide)]; exact h1.2.2.1, Nat.zero_le _⟩, fun i hi => absurd hi (Nat.not_lt_zero _), fun i hi => absurd hi (Nat.not_lt_zero _)⟩ (fun k hk => mm_pn (by omega))
set_option maxRecDepth 8000 in
theorem c121 {s : Int32} (h : CI M sh o l pi fa tp) : mm_R S (d + 4) 121 0 (mm_en 121 [.ref 1, .int s]) [] M (fun v M' => FR M M' ∧ YN v (shp s ∧ ringb o.1 o.2.1 o.2.2 = true) (CI M' (ups sh (sn s) (rgs (sh (sn s)) o)) (0, o.2) l pi fa tp) (CI M' sh (0, o.2) l pi fa tp)) := by
  show mm_R S (d + 4) 121 0 [some (.ref 1), some (.int s), none] [] M _
  obtain ⟨hq1, sf, hq2, hsf⟩ := ci_0 h
  obtain ⟨g0, hg0⟩ := ci_s h
  have ho := ci_o h
  have hN : ¬ (shp s ∧ ringb o.1 o.2.1 o.2.2 = true) → mm_R S (d + 4) 121 23 [some (.ref 1), some (.int s), some (.int (nI 0))] [] M (fun v M' => FR M M' ∧ YN v (shp s ∧ ringb o.1 o.2.1 o.2.2 = true) (CI M' (ups sh (sn s) (rgs (sh (sn s)) o)) (0, o.2) l pi fa tp) (CI M' sh (0, o.2) l pi fa tp)) := by
    intro hP
    refine R_iload_n (q := 24) rfl rfl rfl ?_
    refine R_if_eq (q := 27) (t := 51) rfl rfl rfl (fun h24 => ?_) (fun h24 => absurd rfl h24)
    refine R_aload_n (q := 52) rfl rfl rfl ?_
    refine R_getf (q := 55) rfl rfl rfl hq1 rfl ?_
    refine R_callv0 (q := 58) rfl rfl rfl rfl ho.1.1 (Nat.le_of_ble_eq_true rfl) rfl ?_
    refine R_mono (c69 ho.1) (fun v55 M55 hr55 => ?_)
    obtain ⟨rfl, hm55⟩ := hr55
    rw [hm55]
    dsimp only [Option.toList, List.cons_append, List.nil_append]
    refine R_iload_n (q := 59) rfl rfl rfl ?_
    refine R_zreturn rfl rfl (by first | exact Or.inl rfl | exact Or.inr rfl | assumption) ?_
    exact ⟨FR_p (by decide), Or.inr ⟨hP, rfl, CI_5 h⟩⟩
  have hY : (shp s ∧ ringb o.1 o.2.1 o.2.2 = true) → mm_R S (d + 4) 121 23 [some (.ref 1), some (.int s), some (.int (nI 1))] [] M (fun v M' => FR M M' ∧ YN v (shp s ∧ ringb o.1 o.2.1 o.2.2 = true) (CI M' (ups sh (sn s) (rgs (sh (sn s)) o)) (0, o.2) l pi fa tp) (CI M' sh (0, o.2) l pi fa tp)) := by
    intro hP
    obtain ⟨k, hk, rfl⟩ := i_ix (a := s) 6 (by decide) hP.1.1 hP.1.2
    have e1 : sn (nI k) = k := cl_nI (by omega)
    rw [e1]
    have hg1 : CA (mm_put M (3 + 1) (ro (gi o.1 (oX o.2.1) (oX o.2.2) (ifl (fun _ => nI 0) g0 16) o.1))) 3 (gi o.1 (oX o.2.1) (oX o.2.2) (ifl (fun _ => nI 0) g0 16) o.1) := CA_put hg0
    have hs1 : CA (mm_put M (3 + 1) (ro (gi o.1 (oX o.2.1) (oX o.2.2) (ifl (fun _ => nI 0) g0 16) o.1))) (61 + 2 * k) (sh k) := CA_off ((ci_h h) k hk).1 (by omega) (by omega)
    have hrg : ifl (fun i => sh k i ||| gi o.1 (oX o.2.1) (oX o.2.2) (ifl (fun _ => nI 0) g0 16) o.1 i) (sh k) 16 = rgs (sh k) o := ifl_c (fun i hi => by rw [gi_pt (f' := fun _ => nI 0) o.1 i (ifl_lt hi)])
    have h4 := CI_4 (g := gi o.1 (oX o.2.1) (oX o.2.2) (ifl (fun _ => nI 0) g0 16) o.1) h
    have h5 := CI_sh (f := rgs (sh k) o) h4 hk (fun y hy => by unfold rgs; rw [ifl_lt hy]; exact hb_or (((ci_h h) k hk).2 y hy) (hb_gi _ _ hb_0))
    have ho5 := ci_o h5
    refine R_iload_n (q := 24) rfl rfl rfl ?_
    refine R_if_eq (q := 27) (t := 51) rfl rfl rfl (fun h24 => absurd h24 (by decide)) (fun h24 => ?_)
    refine R_aload_n (q := 28) rfl rfl rfl ?_
    refine R_getf (q := 31) rfl rfl rfl hq1 rfl ?_
    refine R_aload_n (q := 32) rfl rfl rfl ?_
    refine R_getf (q := 35) rfl rfl rfl hq1 rfl ?_
    refine R_callv1 (q := 38) rfl rfl rfl rfl ho.1.1 (Nat.le_of_ble_eq_true rfl) rfl ?_
    refine R_mono (c71 ho.1 hg0 (by omega) ho.2.1 ho.2.2) (fun v35 M35 hr35 => ?_)
    obtain ⟨rfl, hm35⟩ := hr35
    rw [hm35]
    dsimp only [Option.toList, List.cons_append, List.nil_append]
    refine R_aload_n (q := 39) rfl rfl rfl ?_
    refine R_getf (q := 42) rfl rfl rfl (by rw [mm_pn (by omega)]; exact hq1) rfl ?_
    refine R_iload_n (q := 43) rfl rfl rfl ?_
    refine R_aaload (q := 44) rfl rfl (by rw [mm_pn (by omega)]; exact hq2) rfl (by first | assumption | exact in_nI (by omega) (by decide)) (by rw [cl_nI (by omega)]; exact hsf k hk) ?_
    refine R_aload_n (q := 45) rfl rfl rfl ?_
    refine R_getf (q := 48) rfl rfl rfl (by rw [mm_pn (by omega)]; exact hq1) rfl ?_
    refine R_callv1 (q := 51) rfl rfl rfl rfl hs1.1 (Nat.le_of_ble_eq_true rfl) rfl ?_
    refine R_mono (c10 hs1 hg1) (fun v48 M48 hr48 => ?_)
    obtain ⟨rfl, hm48⟩ := hr48
    rw [hm48]
    dsimp only [Option.toList, List.cons_append, List.nil_append]
    rw [hrg]
    refine R_aload_n (q := 52) rfl rfl rfl ?_
    refine R_getf (q := 55) rfl rfl rfl (by rw [mm_pn (by omega), mm_pn (by omega)]; exact hq1) rfl ?_
    refine R_callv0 (q := 58) rfl rfl rfl rfl ho5.1.1 (Nat.le_of_ble_eq_true rfl) rfl ?_
    refine R_mono (c69 ho5.1) (fun v55 M55 hr55 => ?_)
    obtain ⟨rfl, hm55⟩ := hr55
    rw [hm55]
    dsimp only [Option.toList, List.cons_append, List.nil_append]
    refine R_iload_n (q := 59) rfl rfl rfl ?_
    refine R_zreturn rfl rfl (by first | exact Or.inl rfl | exact Or.inr rfl | assumption) ?_
    refine ⟨⟨rfl, fun k1 hk1 => by rw [mm_pn (by omega), mm_pn (by omega), mm_pn (by omega)]⟩, Or.inl ⟨hP, rfl, ?_⟩⟩
    exact CI_5 h5
  refine R_iload_n (q := 1) rfl rfl rfl ?_
  refine R_calls1 (q := 4) rfl rfl rfl rfl (Nat.le_of_ble_eq_true rfl) rfl ?_
  refine R_mono (c139) (fun v1 M1 hr1 => ?_)
  obtain ⟨rfl, hm1⟩ := hr1
  rw [hm1]
  dsimp only [Option.toList, List.cons_append, List.nil_append]
  refine R_if_eq (q := 7) (t := 21) rfl rfl rfl (fun h4 => ?_) (fun h4 => ?_)
  · refine R_iconst (q := 22) (v := nI 0) rfl rfl (by decide) ?_
    refine R_istore_n (q := 23) rfl rfl (Nat.le_of_ble_eq_true rfl) rfl ?_
    dsimp only [List.set]
    first
      | exact hN (fun hP => absurd hP.1 (of_decide_eq_false (zb_eq0.mp h4)))
      | exact hN (fun hP => absurd (hP.2.symm.trans (zb_eq0.mp h14)) (by decide))
      | exact hY (And.intro (of_decide_eq_true (zb_ne0.mp h4)) (zb_ne0.mp h14))
  · refine R_aload_n (q := 8) rfl rfl rfl ?_
    refine R_getf (q := 11) rfl rfl rfl hq1 rfl ?_
    refine R_callv0 (q := 14) rfl rfl rfl rfl ho.1.1 (Nat.le_of_ble_eq_true rfl) rfl ?_
    refine R_mono (c70 ho.1) (fun v11 M11 hr11 => ?_)
    obtain ⟨rfl, hm11⟩ := hr11
    rw [hm11]
    dsimp only [Option.toList, List.cons_append, List.nil_append]
    refine R_if_eq (q := 17) (t := 21) rfl rfl rfl (fun h14 => ?_) (fun h14 => ?_)
    · refine R_iconst (q := 22) (v := nI 0) rfl rfl (by decide) ?_
      refine R_istore_n (q := 23) rfl rfl (Nat.le_of_ble_eq_true rfl) rfl ?_
      dsimp only [List.set]
      first
        | exact hN (fun hP => absurd hP.1 (of_decide_eq_false (zb_eq0.mp h4)))
        | exact hN (fun hP => absurd (hP.2.symm.trans (zb_eq0.mp h14)) (by decide))
        | exact hY (And.intro (of_decide_eq_true (zb_ne0.mp h4)) (zb_ne0.mp h14))
    · refine R_iconst (q := 18) (v := nI 1) rfl rfl (by decide) ?_
      refine R_goto (t := 22) rfl rfl ?_
      refine R_istore_n (q := 23) rfl rfl (Nat.le_of_ble_eq_true rfl) rfl ?_
      dsimp only [List.set]
      first
        | exact hN (fun hP => absurd hP.1 (of_decide_eq_false (zb_eq0.mp h4)))
        | exact hN (fun hP => absurd (hP.2.symm.trans (zb_eq0.mp h14)) (by decide))
        | exact hY (And.intro (of_decide_eq_true (zb_ne0.mp h4)) (zb_ne0.mp h14))
end P38
