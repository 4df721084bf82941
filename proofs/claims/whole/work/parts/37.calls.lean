/-! ===== the desk's own calls, I ===== -/
abbrev shp (s : Int32) : Prop := 0 ≤ s.toInt ∧ s.toInt < 6
abbrev upt (x : Int32) (n : Int) : Prop := -n ≤ x.toInt ∧ x.toInt ≤ n
abbrev btw (x : Int32) (a b : Int) : Prop := a ≤ x.toInt ∧ x.toInt ≤ b
abbrev sn (s : Int32) : Nat := s.toNatClampNeg
/-- said yes and done, or said no -/
def YN (v : Option Value) (P : Prop) (y n : Prop) : Prop := (P ∧ v = some (.int (nI 1)) ∧ y) ∨ (¬ P ∧ v = some (.int (nI 0)) ∧ n)
section P37
variable {S : mm_S} {d : Nat} {M M' : mm_M} {sh : Nat → Nat → Int32} {o : OS} {l : LYS} {pi fa tp : IS}
theorem ci_0 (h : CI M sh o l pi fa tp) : Q0 M := h.1
theorem ci_s (h : CI M sh o l pi fa tp) : Qs M := h.2.1
theorem ci_o (h : CI M sh o l pi fa tp) : Qo M o := h.2.2.1
theorem ci_l (h : CI M sh o l pi fa tp) : Ql M l := h.2.2.2.1
theorem ci_v (h : CI M sh o l pi fa tp) : Qv M := h.2.2.2.2.1
theorem ci_c (h : CI M sh o l pi fa tp) : Qc M := h.2.2.2.2.2.1
theorem ci_u (h : CI M sh o l pi fa tp) : Qu M := h.2.2.2.2.2.2.1
theorem ci_p (h : CI M sh o l pi fa tp) : Qp M 49 pi := h.2.2.2.2.2.2.2.1
theorem ci_f (h : CI M sh o l pi fa tp) : Qp M 51 fa := h.2.2.2.2.2.2.2.2.1
theorem ci_t (h : CI M sh o l pi fa tp) : Qt M tp := h.2.2.2.2.2.2.2.2.2.1
theorem ci_w (h : CI M sh o l pi fa tp) : Qw M := h.2.2.2.2.2.2.2.2.2.2.1
theorem ci_r (h : CI M sh o l pi fa tp) : Qr M := h.2.2.2.2.2.2.2.2.2.2.2.1
theorem ci_h (h : CI M sh o l pi fa tp) : Qh M sh := h.2.2.2.2.2.2.2.2.2.2.2.2
theorem hb_or {x y : Int32} (h : hb x) (g : hb y) : hb (x ||| y) := fun i hi => by rw [b_or, h i hi, g i hi]; rfl
theorem hb_xor {x y : Int32} (h : hb x) (g : hb y) : hb (x ^^^ y) := fun i hi => by rw [b_xor, h i hi, g i hi]; rfl
theorem hb_andl {x y : Int32} (h : hb x) : hb (x &&& y) := fun i hi => by rw [b_and, h i hi]; rfl
theorem hb_andr {x y : Int32} (h : hb y) : hb (x &&& y) := fun i hi => by rw [b_and, h i hi, Bool.and_false]
theorem hb_m : hb 65535 := fun i hi => by rw [b_65535, decide_eq_false (by omega)]
theorem hb_0 : hb 0 := fun i _ => b_0 i
theorem hb_spn {a b : Nat} (h : a ≤ b) (hb' : b ≤ 16) : hb (spn a b) := by
  intro i hi
  by_cases h32 : i < 32
  · rw [spn_bt (by omega) h h32, decide_eq_false (by omega)]
  · exact b_big (by omega)
theorem on4_n {r : R4} (h : on4 r = true) : r.1.toNatClampNeg + r.2.2.1.toNatClampNeg ≤ 16 ∧ 1 ≤ r.2.2.1.toNatClampNeg ∧ r.2.1.toNatClampNeg + r.2.2.2.toNatClampNeg ≤ 16 ∧ 1 ≤ r.2.2.2.toNatClampNeg := by
  have g := of_decide_eq_true h
  have e1 : r.1.toNatClampNeg = r.1.toInt.toNat := rfl
  have e2 : r.2.1.toNatClampNeg = r.2.1.toInt.toNat := rfl
  have e3 : r.2.2.1.toNatClampNeg = r.2.2.1.toInt.toNat := rfl
  have e4 : r.2.2.2.toNatClampNeg = r.2.2.2.toInt.toNat := rfl
  omega
theorem hb_add4 {r : R4} {f : Nat → Int32} (h : on4 r = true) (hf : ∀ y, y < 16 → hb (f y)) : ∀ y, y < 16 → hb (add4 f r y) := by
  intro y hy
  have g := on4_n h
  unfold add4 ifr
  dsimp only
  split
  · exact hb_or (hf y hy) (hb_spn (by omega) (by omega))
  · exact hf y hy
theorem CI_sh {s : Nat} {f : Nat → Int32} (h : CI M sh o l pi fa tp) (hs : s < 6) (hf : ∀ y, y < 16 → hb (f y)) : CI (mm_put M (61 + 2 * s + 1) (ro f)) (ups sh s f) o l pi fa tp := CI_h h (Qh_p (ci_h h) hs hf) (fun k hk => mm_pn (by omega))
set_option maxRecDepth 8000 in
theorem c119 {s x y w h1 : Int32} (h : CI M sh o l pi fa tp) : mm_R S (d + 2) 119 0 (mm_en 119 [.ref 1, .int s, .int x, .int y, .int w, .int h1]) [] M (fun v M' => FR M M' ∧ YN v (shp s ∧ on4 (x, y, w, h1) = true) (CI M' (ups sh (sn s) (add4 (sh (sn s)) (x, y, w, h1))) o l pi fa tp) (CI M' sh o l pi fa tp)) := by
  show mm_R S (d + 2) 119 0 [some (.ref 1), some (.int s), some (.int x), some (.int y), some (.int w), some (.int h1)] [] M _
  obtain ⟨hq1, sf, hq2, hsf⟩ := ci_0 h
  refine R_iload_n (q := 1) rfl rfl rfl ?_
  refine R_calls1 (q := 4) rfl rfl rfl rfl (Nat.le_of_ble_eq_true rfl) rfl ?_
  refine R_mono (c139) (fun v1 M1 hr1 => ?_)
  obtain ⟨rfl, hm1⟩ := hr1
  rw [hm1]
  dsimp only [Option.toList, List.cons_append, List.nil_append]
  refine R_if_eq (q := 7) (t := 19) rfl rfl rfl (fun h4 => ?_) (fun h4 => ?_)
  · refine R_iconst (q := 20) (v := nI 0) rfl rfl (by decide) ?_
    refine R_zreturn rfl rfl (by first | exact Or.inl rfl | exact Or.inr rfl | assumption) ?_
    first
      | exact ⟨FR_r, Or.inr ⟨(fun hP => absurd hP.1 (of_decide_eq_false (zb_eq0.mp h4))), rfl, h⟩⟩
      | exact ⟨FR_r, Or.inr ⟨(fun hP => absurd hP.2 (by unfold on4; rw [zb_eq0.mp h16]; decide)), rfl, h⟩⟩
  · refine R_iload_n (q := 8) rfl rfl rfl ?_
    refine R_iload_n (q := 9) rfl rfl rfl ?_
    refine R_iload (q := 11) rfl rfl rfl ?_
    refine R_iload (q := 13) rfl rfl rfl ?_
    refine R_calls4 (q := 16) rfl rfl rfl rfl (Nat.le_of_ble_eq_true rfl) rfl ?_
    refine R_mono (c143) (fun v13 M13 hr13 => ?_)
    obtain ⟨rfl, hm13⟩ := hr13
    rw [hm13]
    dsimp only [Option.toList, List.cons_append, List.nil_append]
    refine R_if_ne (q := 19) (t := 21) rfl rfl rfl (fun h16 => ?_) (fun h16 => ?_)
    · have hP : shp s ∧ on4 (x, y, w, h1) = true := ⟨of_decide_eq_true (zb_ne0.mp h4), zb_ne0.mp h16⟩
      obtain ⟨k, hk, rfl⟩ := i_ix (a := s) 6 (by decide) hP.1.1 hP.1.2
      refine R_aload_n (q := 22) rfl rfl rfl ?_
      refine R_getf (q := 25) rfl rfl rfl hq1 rfl ?_
      refine R_iload_n (q := 26) rfl rfl rfl ?_
      refine R_aaload (q := 27) rfl rfl hq2 rfl (by first | assumption | exact in_nI (by omega) (by decide)) (by rw [cl_nI (by omega)]; exact hsf k hk) ?_
      refine R_iload_n (q := 28) rfl rfl rfl ?_
      refine R_iload_n (q := 29) rfl rfl rfl ?_
      refine R_iload (q := 31) rfl rfl rfl ?_
      refine R_iload (q := 33) rfl rfl rfl ?_
      refine R_callv4 (q := 36) rfl rfl rfl rfl ((ci_h h) k hk).1.1 (Nat.le_of_ble_eq_true rfl) rfl ?_
      refine R_mono (c12b (r := (x, y, w, h1)) hP.2 ((ci_h h) k hk).1) (fun v33 M33 hr33 => ?_)
      obtain ⟨rfl, hm33⟩ := hr33
      rw [hm33]
      dsimp only [Option.toList, List.cons_append, List.nil_append]
      refine R_iconst (q := 37) (v := nI 1) rfl rfl (by decide) ?_
      refine R_zreturn rfl rfl (by first | exact Or.inl rfl | exact Or.inr rfl | assumption) ?_
      refine ⟨FR_p (by omega), Or.inl ⟨hP, rfl, ?_⟩⟩
      rw [show sn (nI k) = k from cl_nI (by omega)]
      exact CI_sh h hk (hb_add4 hP.2 ((ci_h h) k hk).2)
    · refine R_iconst (q := 20) (v := nI 0) rfl rfl (by decide) ?_
      refine R_zreturn rfl rfl (by first | exact Or.inl rfl | exact Or.inr rfl | assumption) ?_
      first
        | exact ⟨FR_r, Or.inr ⟨(fun hP => absurd hP.1 (of_decide_eq_false (zb_eq0.mp h4))), rfl, h⟩⟩
        | exact ⟨FR_r, Or.inr ⟨(fun hP => absurd hP.2 (by unfold on4; rw [zb_eq0.mp h16]; decide)), rfl, h⟩⟩
theorem pt_upd {n : Nat} {p : Nat → Int32} {x : Int32} (hx : 0 ≤ x.toInt ∧ x.toInt ≤ 16) (h : ∀ i, i < n → p i = nI (oX p i) ∧ oX p i ≤ 16) : ∀ i, i < n + 1 → upd p n x i = nI (oX (upd p n x) i) ∧ oX (upd p n x) i ≤ 16 := by
  intro i hi
  unfold oX upd
  by_cases hq : i = n
  · rw [if_pos hq]
    obtain ⟨j, hj, rfl⟩ := i_ix (a := x) 17 (by decide) hx.1 (by omega)
    rw [cl_nI (by omega)]
    exact ⟨rfl, by omega⟩
  · rw [if_neg hq]
    exact h i (by omega)
set_option maxRecDepth 8000 in
theorem c120 {x y : Int32} (h : CI M sh o l pi fa tp) : mm_R S (d + 1) 120 0 (mm_en 120 [.ref 1, .int x, .int y]) [] M (fun v M' => FR M M' ∧ YN v (ptok o.1 x y) (CI M' sh (o.1 + 1, upd o.2.1 o.1 x, upd o.2.2 o.1 y) l pi fa tp) (CI M' sh o l pi fa tp)) := by
  show mm_R S (d + 1) 120 0 [some (.ref 1), some (.int x), some (.int y)] [] M _
  obtain ⟨hq1, sf, hq2, hsf⟩ := ci_0 h
  have ho := ci_o h
  by_cases hP : ptok o.1 x y
  · refine R_aload_n (q := 1) rfl rfl rfl ?_
    refine R_getf (q := 4) rfl rfl rfl hq1 rfl ?_
    refine R_iload_n (q := 5) rfl rfl rfl ?_
    refine R_iload_n (q := 6) rfl rfl rfl ?_
    refine R_callv2 (q := 9) rfl rfl rfl rfl ho.1.1 (Nat.le_of_ble_eq_true rfl) rfl ?_
    refine R_mono (c68 ho.1 hP) (fun v6 M6 hr6 => ?_)
    obtain ⟨rfl, hm6⟩ := hr6
    rw [hm6]
    dsimp only [Option.toList, List.cons_append, List.nil_append]
    refine R_zreturn rfl rfl (by first | exact Or.inl rfl | exact Or.inr rfl | assumption) ?_
    refine ⟨⟨rfl, fun k hk => ?_⟩, Or.inl ⟨hP, rfl, ?_⟩⟩
    · rw [mm_pn (by omega), mm_pn (by omega), mm_pn (by omega)]
    · refine CI_o h ⟨⟨mm_pe, ?_, ?_, ?_⟩, ?_, ?_⟩ (fun k hk => by rw [mm_pn (by omega), mm_pn (by omega), mm_pn (by omega)])
      · rw [mm_pn (by decide), mm_pn (by decide)]; exact mm_pe
      · rw [mm_pn (by decide)]; exact mm_pe
      · have := hP.1; show o.1 + 1 ≤ 24; omega
      · exact pt_upd hP.2.1 ho.2.1
      · exact pt_upd hP.2.2 ho.2.2
  · refine R_aload_n (q := 1) rfl rfl rfl ?_
    refine R_getf (q := 4) rfl rfl rfl hq1 rfl ?_
    refine R_iload_n (q := 5) rfl rfl rfl ?_
    refine R_iload_n (q := 6) rfl rfl rfl ?_
    refine R_callv2 (q := 9) rfl rfl rfl rfl ho.1.1 (Nat.le_of_ble_eq_true rfl) rfl ?_
    refine R_mono (c68_no ho.1 hP) (fun v6 M6 hr6 => ?_)
    obtain ⟨rfl, hm6⟩ := hr6
    rw [hm6]
    dsimp only [Option.toList, List.cons_append, List.nil_append]
    refine R_zreturn rfl rfl (by first | exact Or.inl rfl | exact Or.inr rfl | assumption) ?_
    exact ⟨FR_r, Or.inr ⟨hP, rfl, h⟩⟩
theorem hb_cmb {k : Nat} {x y : Int32} (hk : k < 4) (h : hb x) (g : hb y) : hb (cmb k x y) := by
  unfold cmb
  match k, hk with
  | 0, _ => exact hb_or h g
  | 1, _ => exact hb_andl h
  | 2, _ => exact hb_andl h
  | 3, _ => exact hb_xor h g
set_option maxRecDepth 8000 in
theorem c122 {t a b kk : Int32} (h : CI M sh o l pi fa tp) : mm_R S (d + 2) 122 0 (mm_en 122 [.ref 1, .int t, .int a, .int b, .int kk]) [] M (fun v M' => FR M M' ∧ YN v ((shp t ∧ shp a ∧ shp b) ∧ btw kk 0 3) (CI M' (ups sh (sn t) (ifl (fun i => cmb (sn kk) (sh (sn a) i) (sh (sn b) i)) (sh (sn t)) 16)) o l pi fa tp) (CI M' sh o l pi fa tp)) := by
  show mm_R S (d + 2) 122 0 [some (.ref 1), some (.int t), some (.int a), some (.int b), some (.int kk)] [] M _
  obtain ⟨hq1, sf, hq2, hsf⟩ := ci_0 h
  refine R_iload_n (q := 1) rfl rfl rfl ?_
  refine R_calls1 (q := 4) rfl rfl rfl rfl (Nat.le_of_ble_eq_true rfl) rfl ?_
  refine R_mono (c139) (fun v1 M1 hr1 => ?_)
  obtain ⟨rfl, hm1⟩ := hr1
  rw [hm1]
  dsimp only [Option.toList, List.cons_append, List.nil_append]
  refine R_if_eq (q := 7) (t := 32) rfl rfl rfl (fun h4 => ?_) (fun h4 => ?_)
  · refine R_iconst (q := 33) (v := nI 0) rfl rfl (by decide) ?_
    refine R_zreturn rfl rfl (by first | exact Or.inl rfl | exact Or.inr rfl | assumption) ?_
    first
      | exact ⟨FR_r, Or.inr ⟨(fun hP => absurd hP.1.1 (of_decide_eq_false (zb_eq0.mp h4))), rfl, h⟩⟩
      | exact ⟨FR_r, Or.inr ⟨(fun hP => absurd hP.1.2.1 (of_decide_eq_false (zb_eq0.mp h11))), rfl, h⟩⟩
      | exact ⟨FR_r, Or.inr ⟨(fun hP => absurd hP.1.2.2 (of_decide_eq_false (zb_eq0.mp h18))), rfl, h⟩⟩
      | exact ⟨FR_r, Or.inr ⟨(fun hP => by have := hP.2; rw [i_lt, i_0] at h23; omega), rfl, h⟩⟩
      | exact ⟨FR_r, Or.inr ⟨(fun hP => by have := hP.2; rw [i_le, ik_3] at h29; omega), rfl, h⟩⟩
  · refine R_iload_n (q := 8) rfl rfl rfl ?_
    refine R_calls1 (q := 11) rfl rfl rfl rfl (Nat.le_of_ble_eq_true rfl) rfl ?_
    refine R_mono (c139) (fun v8 M8 hr8 => ?_)
    obtain ⟨rfl, hm8⟩ := hr8
    rw [hm8]
    dsimp only [Option.toList, List.cons_append, List.nil_append]
    refine R_if_eq (q := 14) (t := 32) rfl rfl rfl (fun h11 => ?_) (fun h11 => ?_)
    · refine R_iconst (q := 33) (v := nI 0) rfl rfl (by decide) ?_
      refine R_zreturn rfl rfl (by first | exact Or.inl rfl | exact Or.inr rfl | assumption) ?_
      first
        | exact ⟨FR_r, Or.inr ⟨(fun hP => absurd hP.1.1 (of_decide_eq_false (zb_eq0.mp h4))), rfl, h⟩⟩
        | exact ⟨FR_r, Or.inr ⟨(fun hP => absurd hP.1.2.1 (of_decide_eq_false (zb_eq0.mp h11))), rfl, h⟩⟩
        | exact ⟨FR_r, Or.inr ⟨(fun hP => absurd hP.1.2.2 (of_decide_eq_false (zb_eq0.mp h18))), rfl, h⟩⟩
        | exact ⟨FR_r, Or.inr ⟨(fun hP => by have := hP.2; rw [i_lt, i_0] at h23; omega), rfl, h⟩⟩
        | exact ⟨FR_r, Or.inr ⟨(fun hP => by have := hP.2; rw [i_le, ik_3] at h29; omega), rfl, h⟩⟩
    · refine R_iload_n (q := 15) rfl rfl rfl ?_
      refine R_calls1 (q := 18) rfl rfl rfl rfl (Nat.le_of_ble_eq_true rfl) rfl ?_
      refine R_mono (c139) (fun v15 M15 hr15 => ?_)
      obtain ⟨rfl, hm15⟩ := hr15
      rw [hm15]
      dsimp only [Option.toList, List.cons_append, List.nil_append]
      refine R_if_eq (q := 21) (t := 32) rfl rfl rfl (fun h18 => ?_) (fun h18 => ?_)
      · refine R_iconst (q := 33) (v := nI 0) rfl rfl (by decide) ?_
        refine R_zreturn rfl rfl (by first | exact Or.inl rfl | exact Or.inr rfl | assumption) ?_
        first
          | exact ⟨FR_r, Or.inr ⟨(fun hP => absurd hP.1.1 (of_decide_eq_false (zb_eq0.mp h4))), rfl, h⟩⟩
          | exact ⟨FR_r, Or.inr ⟨(fun hP => absurd hP.1.2.1 (of_decide_eq_false (zb_eq0.mp h11))), rfl, h⟩⟩
          | exact ⟨FR_r, Or.inr ⟨(fun hP => absurd hP.1.2.2 (of_decide_eq_false (zb_eq0.mp h18))), rfl, h⟩⟩
          | exact ⟨FR_r, Or.inr ⟨(fun hP => by have := hP.2; rw [i_lt, i_0] at h23; omega), rfl, h⟩⟩
          | exact ⟨FR_r, Or.inr ⟨(fun hP => by have := hP.2; rw [i_le, ik_3] at h29; omega), rfl, h⟩⟩
      · refine R_iload (q := 23) rfl rfl rfl ?_
        refine R_if_lt (q := 26) (t := 32) rfl rfl rfl (fun h23 => ?_) (fun h23 => ?_)
        · refine R_iconst (q := 33) (v := nI 0) rfl rfl (by decide) ?_
          refine R_zreturn rfl rfl (by first | exact Or.inl rfl | exact Or.inr rfl | assumption) ?_
          first
            | exact ⟨FR_r, Or.inr ⟨(fun hP => absurd hP.1.1 (of_decide_eq_false (zb_eq0.mp h4))), rfl, h⟩⟩
            | exact ⟨FR_r, Or.inr ⟨(fun hP => absurd hP.1.2.1 (of_decide_eq_false (zb_eq0.mp h11))), rfl, h⟩⟩
            | exact ⟨FR_r, Or.inr ⟨(fun hP => absurd hP.1.2.2 (of_decide_eq_false (zb_eq0.mp h18))), rfl, h⟩⟩
            | exact ⟨FR_r, Or.inr ⟨(fun hP => by have := hP.2; rw [i_lt, i_0] at h23; omega), rfl, h⟩⟩
            | exact ⟨FR_r, Or.inr ⟨(fun hP => by have := hP.2; rw [i_le, ik_3] at h29; omega), rfl, h⟩⟩
        · refine R_iload (q := 28) rfl rfl rfl ?_
          refine R_iconst (q := 29) (v := nI 3) rfl rfl (by decide) ?_
          refine R_icmp_le (q := 32) (t := 34) rfl rfl rfl (fun h29 => ?_) (fun h29 => ?_)
          · have hP : (shp t ∧ shp a ∧ shp b) ∧ btw kk 0 3 := ⟨⟨of_decide_eq_true (zb_ne0.mp h4), of_decide_eq_true (zb_ne0.mp h11), of_decide_eq_true (zb_ne0.mp h18)⟩, by rw [i_lt, i_0] at h23; rw [i_le, ik_3] at h29; exact ⟨by omega, by omega⟩⟩
            obtain ⟨k, hk, rfl⟩ := i_ix (a := t) 6 (by decide) hP.1.1.1 hP.1.1.2
            obtain ⟨k2, hk2, rfl⟩ := i_ix (a := a) 6 (by decide) hP.1.2.1.1 hP.1.2.1.2
            obtain ⟨k3, hk3, rfl⟩ := i_ix (a := b) 6 (by decide) hP.1.2.2.1 hP.1.2.2.2
            obtain ⟨k4, hk4, rfl⟩ := i_ix (a := kk) 4 (by decide) hP.2.1 (by have := hP.2.2; omega)
            refine R_aload_n (q := 35) rfl rfl rfl ?_
            refine R_getf (q := 38) rfl rfl rfl hq1 rfl ?_
            refine R_iload_n (q := 39) rfl rfl rfl ?_
            refine R_aaload (q := 40) rfl rfl hq2 rfl (by first | assumption | exact in_nI (by omega) (by decide)) (by rw [cl_nI (by omega)]; exact hsf k hk) ?_
            refine R_aload_n (q := 41) rfl rfl rfl ?_
            refine R_getf (q := 44) rfl rfl rfl hq1 rfl ?_
            refine R_iload_n (q := 45) rfl rfl rfl ?_
            refine R_aaload (q := 46) rfl rfl hq2 rfl (by first | assumption | exact in_nI (by omega) (by decide)) (by rw [cl_nI (by omega)]; exact hsf k2 hk2) ?_
            refine R_aload_n (q := 47) rfl rfl rfl ?_
            refine R_getf (q := 50) rfl rfl rfl hq1 rfl ?_
            refine R_iload_n (q := 51) rfl rfl rfl ?_
            refine R_aaload (q := 52) rfl rfl hq2 rfl (by first | assumption | exact in_nI (by omega) (by decide)) (by rw [cl_nI (by omega)]; exact hsf k3 hk3) ?_
            refine R_iload (q := 54) rfl rfl rfl ?_
            refine R_callv3 (q := 57) rfl rfl rfl rfl ((ci_h h) k hk).1.1 (Nat.le_of_ble_eq_true rfl) rfl ?_
            refine R_mono (c14 (by omega) ((ci_h h) k hk).1 ((ci_h h) k2 hk2).1 ((ci_h h) k3 hk3).1) (fun v54 M54 hr54 => ?_)
            obtain ⟨rfl, hm54⟩ := hr54
            rw [hm54]
            dsimp only [Option.toList, List.cons_append, List.nil_append]
            refine R_iconst (q := 58) (v := nI 1) rfl rfl (by decide) ?_
            refine R_zreturn rfl rfl (by first | exact Or.inl rfl | exact Or.inr rfl | assumption) ?_
            refine ⟨FR_p (by omega), Or.inl ⟨hP, rfl, ?_⟩⟩
            rw [show sn (nI k) = k from cl_nI (by omega), show sn (nI k2) = k2 from cl_nI (by omega), show sn (nI k3) = k3 from cl_nI (by omega), show sn (nI k4) = k4 from cl_nI (by omega)]
            refine CI_sh h hk (fun y hy => ?_)
            rw [ifl_lt hy]
            exact hb_cmb hk4 (((ci_h h) k2 hk2).2 y hy) (((ci_h h) k3 hk3).2 y hy)
          · refine R_iconst (q := 33) (v := nI 0) rfl rfl (by decide) ?_
            refine R_zreturn rfl rfl (by first | exact Or.inl rfl | exact Or.inr rfl | assumption) ?_
            first
              | exact ⟨FR_r, Or.inr ⟨(fun hP => absurd hP.1.1 (of_decide_eq_false (zb_eq0.mp h4))), rfl, h⟩⟩
              | exact ⟨FR_r, Or.inr ⟨(fun hP => absurd hP.1.2.1 (of_decide_eq_false (zb_eq0.mp h11))), rfl, h⟩⟩
              | exact ⟨FR_r, Or.inr ⟨(fun hP => absurd hP.1.2.2 (of_decide_eq_false (zb_eq0.mp h18))), rfl, h⟩⟩
              | exact ⟨FR_r, Or.inr ⟨(fun hP => by have := hP.2; rw [i_lt, i_0] at h23; omega), rfl, h⟩⟩
              | exact ⟨FR_r, Or.inr ⟨(fun hP => by have := hP.2; rw [i_le, ik_3] at h29; omega), rfl, h⟩⟩
def itf (F : (Nat → Int32) → Nat → Int32) : Nat → (Nat → Int32) → (Nat → Int32)
  | 0, f => f
  | j + 1, f => itf F j (ifl (F f) f 16)
theorem itf_hb {F : (Nat → Int32) → Nat → Int32} (hF : ∀ f, (∀ y, y < 16 → hb (f y)) → ∀ y, y < 16 → hb (F f y)) : ∀ j f, (∀ y, y < 16 → hb (f y)) → ∀ y, y < 16 → hb (itf F j f y) := by
  intro j
  induction j with
  | zero => intro f h; exact h
  | succ j ih =>
    intro f h
    exact ih _ (fun y hy => by rw [ifl_lt hy]; exact hF f h y hy)
theorem hb_grn {f : Nat → Int32} : ∀ y, hb (grn f y) := fun _ => hb_andr hb_m
theorem hb_sk1 {x : Int32} (h : hb x) : hb (sk1 x) := by
  unfold sk1
  exact hb_andl (hb_andl h)
theorem hb_skn {f : Nat → Int32} (h : ∀ y, y < 16 → hb (f y)) : ∀ y, y < 16 → hb (skn f y) := by
  intro y hy
  unfold skn
  exact hb_andl (hb_andr (hb_sk1 (h y hy)))
def szf (r : Int32) (f : Nat → Int32) : Nat → Int32 := itf skn (-r).toNatClampNeg (itf grn r.toNatClampNeg f)
theorem CA_i (h : CI M sh o l pi fa tp) {s : Nat} (hs : s < 6) {f : Nat → Int32} : CA (mm_put M (61 + 2 * s + 1) (ro f)) (61 + 2 * s) f := CA_put ((ci_h h) s hs).1
set_option maxRecDepth 8000 in
theorem c123 {t a r : Int32} (h : CI M sh o l pi fa tp) : mm_R S (d + 2) 123 0 (mm_en 123 [.ref 1, .int t, .int a, .int r]) [] M (fun v M' => FR M M' ∧ YN v ((shp t ∧ shp a) ∧ upt r 8) (CI M' (ups sh (sn t) (szf r (ifl (sh (sn a)) (sh (sn t)) 16))) o l pi fa tp) (CI M' sh o l pi fa tp)) := by
  show mm_R S (d + 2) 123 0 [some (.ref 1), some (.int t), some (.int a), some (.int r), none] [] M _
  obtain ⟨hq1, sf, hq2, hsf⟩ := ci_0 h
  have hl2 : ∀ (k : Nat) (hk : k < 6) (c : Int32) (P2 : Option Value → mm_M → Prop) (va : Option Value) (j i : Nat) (f : Nat → Int32), i + j = (-c).toNatClampNeg → P2 (some (.int (nI 1))) (mm_put M (61 + 2 * k + 1) (ro (itf skn j f))) → mm_R S (d + 2) 123 67 [some (.ref 1), some (.int (nI k)), va, some (.int c), some (.int (nI i))] [] (mm_put M (61 + 2 * k + 1) (ro f)) P2 := by
    intro k hk c P2 va j
    have hc := cnn_lt (-c)
    induction j with
    | zero =>
      intro i f hi hk2
      refine R_iload (q := 69) rfl rfl rfl ?_
      refine R_iload_n (q := 70) rfl rfl rfl ?_
      refine R_ineg (q := 71) rfl rfl ?_
      refine R_icmp_ge (q := 74) (t := 89) rfl rfl rfl (fun h71 => ?_) (fun h71 => absurd (cnn_ge (by omega)) h71)
      refine R_iconst (q := 90) (v := nI 1) rfl rfl (by decide) ?_
      refine R_zreturn rfl rfl (by first | exact Or.inl rfl | exact Or.inr rfl | assumption) ?_
      exact hk2
    | succ j ih =>
      intro i f hi hk2
      refine R_iload (q := 69) rfl rfl rfl ?_
      refine R_iload_n (q := 70) rfl rfl rfl ?_
      refine R_ineg (q := 71) rfl rfl ?_
      refine R_icmp_ge (q := 74) (t := 89) rfl rfl rfl (fun h71 => absurd h71 (cnn_lt2 (by omega))) (fun h71 => ?_)
      refine R_aload_n (q := 75) rfl rfl rfl ?_
      refine R_getf (q := 78) rfl rfl rfl (by rw [mm_pn (by omega)]; exact hq1) rfl ?_
      refine R_iload_n (q := 79) rfl rfl rfl ?_
      refine R_aaload (q := 80) rfl rfl (by rw [mm_pn (by omega)]; exact hq2) rfl (by first | assumption | exact in_nI (by omega) (by decide)) (by rw [cl_nI (by omega)]; exact hsf k hk) ?_
      refine R_callv0 (q := 83) rfl rfl rfl rfl (CA_i h hk).1 (Nat.le_of_ble_eq_true rfl) rfl ?_
      refine R_mono (c17 (CA_i h hk)) (fun v80 M80 hr80 => ?_)
      obtain ⟨rfl, hm80⟩ := hr80
      rw [hm80, mm_pp]
      dsimp only [Option.toList, List.cons_append, List.nil_append]
      refine R_iinc (q := 86) rfl rfl rfl (nI_i1 i) rfl ?_
      dsimp only [List.set]
      refine R_goto (t := 67) rfl rfl ?_
      exact ih (i + 1) _ (by omega) hk2
  have hl1 : ∀ (k : Nat) (hk : k < 6) (c : Int32) (P2 : Option Value → mm_M → Prop) (va : Option Value) (j i : Nat) (f : Nat → Int32), i + j = c.toNatClampNeg → P2 (some (.int (nI 1))) (mm_put M (61 + 2 * k + 1) (ro (itf skn (-c).toNatClampNeg (itf grn j f)))) → mm_R S (d + 2) 123 43 [some (.ref 1), some (.int (nI k)), va, some (.int c), some (.int (nI i))] [] (mm_put M (61 + 2 * k + 1) (ro f)) P2 := by
    intro k hk c P2 va j
    have hc := cnn_lt c
    induction j with
    | zero =>
      intro i f hi hk2
      refine R_iload (q := 45) rfl rfl rfl ?_
      refine R_iload_n (q := 46) rfl rfl rfl ?_
      refine R_icmp_ge (q := 49) (t := 64) rfl rfl rfl (fun h46 => ?_) (fun h46 => absurd (cnn_ge (by omega)) h46)
      refine R_iconst (q := 65) (v := nI 0) rfl rfl (by decide) ?_
      refine R_istore (q := 67) rfl rfl (Nat.le_of_ble_eq_true rfl) rfl ?_
      dsimp only [List.set]
      exact hl2 k hk c P2 va (-c).toNatClampNeg 0 f (by omega) hk2
    | succ j ih =>
      intro i f hi hk2
      refine R_iload (q := 45) rfl rfl rfl ?_
      refine R_iload_n (q := 46) rfl rfl rfl ?_
      refine R_icmp_ge (q := 49) (t := 64) rfl rfl rfl (fun h46 => absurd h46 (cnn_lt2 (by omega))) (fun h46 => ?_)
      refine R_aload_n (q := 50) rfl rfl rfl ?_
      refine R_getf (q := 53) rfl rfl rfl (by rw [mm_pn (by omega)]; exact hq1) rfl ?_
      refine R_iload_n (q := 54) rfl rfl rfl ?_
      refine R_aaload (q := 55) rfl rfl (by rw [mm_pn (by omega)]; exact hq2) rfl (by first | assumption | exact in_nI (by omega) (by decide)) (by rw [cl_nI (by omega)]; exact hsf k hk) ?_
      refine R_callv0 (q := 58) rfl rfl rfl rfl (CA_i h hk).1 (Nat.le_of_ble_eq_true rfl) rfl ?_
      refine R_mono (c16 (CA_i h hk)) (fun v55 M55 hr55 => ?_)
      obtain ⟨rfl, hm55⟩ := hr55
      rw [hm55, mm_pp]
      dsimp only [Option.toList, List.cons_append, List.nil_append]
      refine R_iinc (q := 61) rfl rfl rfl (nI_i1 i) rfl ?_
      dsimp only [List.set]
      refine R_goto (t := 43) rfl rfl ?_
      exact ih (i + 1) _ (by omega) hk2
  refine R_iload_n (q := 1) rfl rfl rfl ?_
  refine R_calls1 (q := 4) rfl rfl rfl rfl (Nat.le_of_ble_eq_true rfl) rfl ?_
  refine R_mono (c139) (fun v1 M1 hr1 => ?_)
  obtain ⟨rfl, hm1⟩ := hr1
  rw [hm1]
  dsimp only [Option.toList, List.cons_append, List.nil_append]
  refine R_if_eq (q := 7) (t := 23) rfl rfl rfl (fun h4 => ?_) (fun h4 => ?_)
  · refine R_iconst (q := 24) (v := nI 0) rfl rfl (by decide) ?_
    refine R_zreturn rfl rfl (by first | exact Or.inl rfl | exact Or.inr rfl | assumption) ?_
    first
      | exact ⟨FR_r, Or.inr ⟨(fun hP => absurd hP.1.1 (of_decide_eq_false (zb_eq0.mp h4))), rfl, h⟩⟩
      | exact ⟨FR_r, Or.inr ⟨(fun hP => absurd hP.1.2 (of_decide_eq_false (zb_eq0.mp h11))), rfl, h⟩⟩
      | exact ⟨FR_r, Or.inr ⟨(fun hP => absurd hP.2 (of_decide_eq_false (zb_eq0.mp h20))), rfl, h⟩⟩
  · refine R_iload_n (q := 8) rfl rfl rfl ?_
    refine R_calls1 (q := 11) rfl rfl rfl rfl (Nat.le_of_ble_eq_true rfl) rfl ?_
    refine R_mono (c139) (fun v8 M8 hr8 => ?_)
    obtain ⟨rfl, hm8⟩ := hr8
    rw [hm8]
    dsimp only [Option.toList, List.cons_append, List.nil_append]
    refine R_if_eq (q := 14) (t := 23) rfl rfl rfl (fun h11 => ?_) (fun h11 => ?_)
    · refine R_iconst (q := 24) (v := nI 0) rfl rfl (by decide) ?_
      refine R_zreturn rfl rfl (by first | exact Or.inl rfl | exact Or.inr rfl | assumption) ?_
      first
        | exact ⟨FR_r, Or.inr ⟨(fun hP => absurd hP.1.1 (of_decide_eq_false (zb_eq0.mp h4))), rfl, h⟩⟩
        | exact ⟨FR_r, Or.inr ⟨(fun hP => absurd hP.1.2 (of_decide_eq_false (zb_eq0.mp h11))), rfl, h⟩⟩
        | exact ⟨FR_r, Or.inr ⟨(fun hP => absurd hP.2 (of_decide_eq_false (zb_eq0.mp h20))), rfl, h⟩⟩
    · refine R_iload_n (q := 15) rfl rfl rfl ?_
      refine R_bipush (q := 17) (v := nI 8) rfl rfl (by decide) ?_
      refine R_calls2 (q := 20) rfl rfl rfl rfl (Nat.le_of_ble_eq_true rfl) rfl ?_
      refine R_mono (c141 (by decide)) (fun v17 M17 hr17 => ?_)
      obtain ⟨rfl, hm17⟩ := hr17
      rw [hm17]
      dsimp only [Option.toList, List.cons_append, List.nil_append]
      refine R_if_ne (q := 23) (t := 25) rfl rfl rfl (fun h20 => ?_) (fun h20 => ?_)
      · have hP : (shp t ∧ shp a) ∧ upt r 8 := ⟨⟨of_decide_eq_true (zb_ne0.mp h4), of_decide_eq_true (zb_ne0.mp h11)⟩, of_decide_eq_true (zb_ne0.mp h20)⟩
        obtain ⟨k, hk, rfl⟩ := i_ix (a := t) 6 (by decide) hP.1.1.1 hP.1.1.2
        obtain ⟨k2, hk2, rfl⟩ := i_ix (a := a) 6 (by decide) hP.1.2.1 hP.1.2.2
        refine R_aload_n (q := 26) rfl rfl rfl ?_
        refine R_getf (q := 29) rfl rfl rfl hq1 rfl ?_
        refine R_iload_n (q := 30) rfl rfl rfl ?_
        refine R_aaload (q := 31) rfl rfl hq2 rfl (by first | assumption | exact in_nI (by omega) (by decide)) (by rw [cl_nI (by omega)]; exact hsf k hk) ?_
        refine R_aload_n (q := 32) rfl rfl rfl ?_
        refine R_getf (q := 35) rfl rfl rfl hq1 rfl ?_
        refine R_iload_n (q := 36) rfl rfl rfl ?_
        refine R_aaload (q := 37) rfl rfl hq2 rfl (by first | assumption | exact in_nI (by omega) (by decide)) (by rw [cl_nI (by omega)]; exact hsf k2 hk2) ?_
        refine R_callv1 (q := 40) rfl rfl rfl rfl ((ci_h h) k hk).1.1 (Nat.le_of_ble_eq_true rfl) rfl ?_
        refine R_mono (c8 ((ci_h h) k hk).1 ((ci_h h) k2 hk2).1) (fun v37 M37 hr37 => ?_)
        obtain ⟨rfl, hm37⟩ := hr37
        rw [hm37]
        dsimp only [Option.toList, List.cons_append, List.nil_append]
        refine R_iconst (q := 41) (v := nI 0) rfl rfl (by decide) ?_
        refine R_istore (q := 43) rfl rfl (Nat.le_of_ble_eq_true rfl) rfl ?_
        dsimp only [List.set]
        refine hl1 k hk r _ _ r.toNatClampNeg 0 _ (by omega) ⟨FR_p (by omega), Or.inl ⟨hP, rfl, ?_⟩⟩
        rw [show sn (nI k) = k from cl_nI (by omega), show sn (nI k2) = k2 from cl_nI (by omega)]
        refine CI_sh h hk (itf_hb (fun f hf => hb_skn hf) _ _ (itf_hb (fun f _ y _ => hb_grn y) _ _ (fun y hy => ?_)))
        rw [ifl_lt hy]
        exact ((ci_h h) k2 hk2).2 y hy
      · refine R_iconst (q := 24) (v := nI 0) rfl rfl (by decide) ?_
        refine R_zreturn rfl rfl (by first | exact Or.inl rfl | exact Or.inr rfl | assumption) ?_
        first
          | exact ⟨FR_r, Or.inr ⟨(fun hP => absurd hP.1.1 (of_decide_eq_false (zb_eq0.mp h4))), rfl, h⟩⟩
          | exact ⟨FR_r, Or.inr ⟨(fun hP => absurd hP.1.2 (of_decide_eq_false (zb_eq0.mp h11))), rfl, h⟩⟩
          | exact ⟨FR_r, Or.inr ⟨(fun hP => absurd hP.2 (of_decide_eq_false (zb_eq0.mp h20))), rfl, h⟩⟩
set_option maxRecDepth 8000 in
theorem c130 {s x y : Int32} (h : CI M sh o l pi fa tp) : mm_R S (d + 3) 130 0 (mm_en 130 [.ref 1, .int s, .int x, .int y]) [] M (fun v M' => M' = M ∧ v = some (.int (zb (decide (shp s) && (decide (0 ≤ x.toInt ∧ x.toInt < 16) && bt (rowv (sh (sn s)) y) (sn x)))))) := by
  show mm_R S (d + 3) 130 0 [some (.ref 1), some (.int s), some (.int x), some (.int y)] [] M _
  obtain ⟨hq1, sf, hq2, hsf⟩ := ci_0 h
  refine R_iload_n (q := 1) rfl rfl rfl ?_
  refine R_calls1 (q := 4) rfl rfl rfl rfl (Nat.le_of_ble_eq_true rfl) rfl ?_
  refine R_mono (c139) (fun v1 M1 hr1 => ?_)
  obtain ⟨rfl, hm1⟩ := hr1
  rw [hm1]
  dsimp only [Option.toList, List.cons_append, List.nil_append]
  refine R_if_eq (q := 7) (t := 25) rfl rfl rfl (fun h4 => ?_) (fun h4 => ?_)
  · refine R_iconst (q := 26) (v := nI 0) rfl rfl (by decide) ?_
    refine R_zreturn rfl rfl (by first | exact Or.inl rfl | exact Or.inr rfl | assumption) ?_
    refine ⟨rfl, congrArg some (congrArg Value.int ?_)⟩
    first
      | (rw [zb_eq0.mp h4]; rfl)
      | (rw [zb_ne0.mp h4, show sn (nI k) = k from cl_nI (by omega), zb_eq0.mp h18]; rfl)
      | (rw [zb_ne0.mp h4, show sn (nI k) = k from cl_nI (by omega), zb_ne0.mp h18]; rfl)
  · have hP : shp s := of_decide_eq_true (zb_ne0.mp h4)
    obtain ⟨k, hk, rfl⟩ := i_ix (a := s) 6 (by decide) hP.1 hP.2
    refine R_aload_n (q := 8) rfl rfl rfl ?_
    refine R_getf (q := 11) rfl rfl rfl hq1 rfl ?_
    refine R_iload_n (q := 12) rfl rfl rfl ?_
    refine R_aaload (q := 13) rfl rfl hq2 rfl (by first | assumption | exact in_nI (by omega) (by decide)) (by rw [cl_nI (by omega)]; exact hsf k hk) ?_
    refine R_iload_n (q := 14) rfl rfl rfl ?_
    refine R_iload_n (q := 15) rfl rfl rfl ?_
    refine R_callv2 (q := 18) rfl rfl rfl rfl ((ci_h h) k hk).1.1 (Nat.le_of_ble_eq_true rfl) rfl ?_
    refine R_mono (c4 ((ci_h h) k hk).1) (fun v15 M15 hr15 => ?_)
    obtain ⟨rfl, hm15⟩ := hr15
    rw [hm15]
    dsimp only [Option.toList, List.cons_append, List.nil_append]
    refine R_if_eq (q := 21) (t := 25) rfl rfl rfl (fun h18 => ?_) (fun h18 => ?_)
    · refine R_iconst (q := 26) (v := nI 0) rfl rfl (by decide) ?_
      refine R_zreturn rfl rfl (by first | exact Or.inl rfl | exact Or.inr rfl | assumption) ?_
      refine ⟨rfl, congrArg some (congrArg Value.int ?_)⟩
      first
        | (rw [zb_eq0.mp h4]; rfl)
        | (rw [zb_ne0.mp h4, show sn (nI k) = k from cl_nI (by omega), zb_eq0.mp h18]; rfl)
        | (rw [zb_ne0.mp h4, show sn (nI k) = k from cl_nI (by omega), zb_ne0.mp h18]; rfl)
    · refine R_iconst (q := 22) (v := nI 1) rfl rfl (by decide) ?_
      refine R_goto (t := 26) rfl rfl ?_
      refine R_zreturn rfl rfl (by first | exact Or.inl rfl | exact Or.inr rfl | assumption) ?_
      refine ⟨rfl, congrArg some (congrArg Value.int ?_)⟩
      first
        | (rw [zb_eq0.mp h4]; rfl)
        | (rw [zb_ne0.mp h4, show sn (nI k) = k from cl_nI (by omega), zb_eq0.mp h18]; rfl)
        | (rw [zb_ne0.mp h4, show sn (nI k) = k from cl_nI (by omega), zb_ne0.mp h18]; rfl)
def itA (pi fa : IS) (i q a : Int32) : Int32 := if a = 0 then itv pi.1 pi.2 i q else if a = 1 then itv fa.1 fa.2 i q else (-1000)
theorem lw_no {a : Int32} {Lq : List (Option Value)} {sq : List Value} {Mq : mm_M} (h0 : ¬ a = 0) (h1 : ¬ a = 1) : mm_lw 47 #[(0, 27), (1, 37)] 1 Lq (.int a :: sq) Mq = some (48, Lq, sq, Mq) := by
  have e0 : ¬ a.toInt = 0 := fun q => h0 ((i_eq a 0).mpr q)
  have e1 : ¬ a.toInt = 1 := fun q => h1 ((i_eq a 1).mpr q)
  have hof : Op.lookupswitch.offset [((0 : Int), (27 : Int)), (1, 37)] 47 a.toInt = 47 := by
    rw [Op.lookupswitch.offset_cons, if_neg (fun q => e0 q.symm), Op.lookupswitch.offset_cons, if_neg (fun q => e1 q.symm)]
    rfl
  unfold mm_lw
  dsimp only
  rw [if_pos (by decide), hof]
  rfl
set_option maxRecDepth 8000 in
theorem c134 {a i q : Int32} (h : CI M sh o l pi fa tp) : mm_R S (d + 1) 134 0 (mm_en 134 [.ref 1, .int a, .int i, .int q]) [] M (fun v M' => M' = M ∧ v = some (.int (itA pi fa i q a))) := by
  show mm_R S (d + 1) 134 0 [some (.ref 1), some (.int a), some (.int i), some (.int q)] [] M _
  obtain ⟨hq1, sf, hq2, hsf⟩ := ci_0 h
  refine R_iload_n (q := 1) rfl rfl rfl ?_
  unfold itA
  by_cases h0 : a = 0
  · subst h0
    rw [if_pos rfl]
    refine R_lsw (t := 28) rfl rfl ?_
    refine R_aload_n (q := 29) rfl rfl rfl ?_
    refine R_getf (q := 32) rfl rfl rfl hq1 rfl ?_
    refine R_iload_n (q := 33) rfl rfl rfl ?_
    refine R_iload_n (q := 34) rfl rfl rfl ?_
    refine R_callv2 (q := 37) rfl rfl rfl rfl (ci_p h).1 (Nat.le_of_ble_eq_true rfl) rfl ?_
    refine R_mono (c52 (ci_p h)) (fun v34 M34 hr34 => ?_)
    obtain ⟨rfl, hm34⟩ := hr34
    rw [hm34]
    dsimp only [Option.toList, List.cons_append, List.nil_append]
    refine R_ireturn rfl rfl ?_
    exact ⟨rfl, rfl⟩
  · rw [if_neg h0]
    by_cases h1 : a = 1
    · subst h1
      rw [if_pos rfl]
      refine R_lsw (t := 38) rfl rfl ?_
      refine R_aload_n (q := 39) rfl rfl rfl ?_
      refine R_getf (q := 42) rfl rfl rfl hq1 rfl ?_
      refine R_iload_n (q := 43) rfl rfl rfl ?_
      refine R_iload_n (q := 44) rfl rfl rfl ?_
      refine R_callv2 (q := 47) rfl rfl rfl rfl (ci_f h).1 (Nat.le_of_ble_eq_true rfl) rfl ?_
      refine R_mono (c52 (ci_f h)) (fun v44 M44 hr44 => ?_)
      obtain ⟨rfl, hm44⟩ := hr44
      rw [hm44]
      dsimp only [Option.toList, List.cons_append, List.nil_append]
      refine R_ireturn rfl rfl ?_
      exact ⟨rfl, rfl⟩
    · rw [if_neg h1]
      refine R_lsw (t := 48) rfl (lw_no h0 h1) ?_
      refine R_sipush (q := 51) (v := (-1000)) rfl rfl (by decide) ?_
      refine R_ireturn rfl rfl ?_
      exact ⟨rfl, rfl⟩
set_option maxRecDepth 8000 in
theorem c136 {b : Int32} (h : CI M sh o l pi fa tp) : mm_R S (d + 1) 136 0 (mm_en 136 [.ref 1, .int b]) [] M (fun v M' => FR M M' ∧ YN v (btw b 0 255 ∧ tp.1 < 400) (CI M' sh o l pi fa (tp.1 + 1, upd tp.2 tp.1 b)) (CI M' sh o l pi fa tp)) := by
  show mm_R S (d + 1) 136 0 [some (.ref 1), some (.int b)] [] M _
  obtain ⟨hq1, sf, hq2, hsf⟩ := ci_0 h
  have ht := ci_t h
  by_cases hP : tp.1 < 400
  · refine R_iload_n (q := 1) rfl rfl rfl ?_
    refine R_if_lt (q := 4) (t := 26) rfl rfl rfl (fun h1 => ?_) (fun h1 => ?_)
    · refine R_iconst (q := 27) (v := nI 0) rfl rfl (by decide) ?_
      refine R_zreturn rfl rfl (by first | exact Or.inl rfl | exact Or.inr rfl | assumption) ?_
      first
        | exact ⟨FR_r, Or.inr ⟨(fun hQ => by have := hQ.1; rw [i_lt, i_0] at h1; omega), rfl, h⟩⟩
        | exact ⟨FR_r, Or.inr ⟨(fun hQ => by have := hQ.1; rw [i_lt, ik_255] at h8; omega), rfl, h⟩⟩
        | exact ⟨FR_r, Or.inr ⟨(fun hQ => hP hQ.2), rfl, h⟩⟩
        | (refine ⟨⟨rfl, fun k hk => by rw [mm_pn (by omega), mm_pn (by omega)]⟩, Or.inl ⟨⟨⟨by rw [i_lt, i_0] at h1; omega, by rw [i_lt, ik_255] at h8; omega⟩, hP⟩, rfl, ?_⟩⟩
           refine CI_t h ⟨⟨mm_pe, by rw [mm_pn (by decide)]; exact mm_pe, by show tp.1 + 1 ≤ 400; omega⟩, ?_⟩ (fun k hk => by rw [mm_pn (by omega), mm_pn (by omega)])
           intro i hi
           have hi : i < tp.1 + 1 := hi
           show 0 ≤ (upd tp.2 tp.1 b i).toInt ∧ (upd tp.2 tp.1 b i).toInt ≤ 255
           unfold upd
           split
           · rw [i_lt, i_0] at h1; rw [i_lt, ik_255] at h8; omega
           · exact ht.2 i (by omega))
    · refine R_iload_n (q := 5) rfl rfl rfl ?_
      refine R_sipush (q := 8) (v := nI 255) rfl rfl (by decide) ?_
      refine R_icmp_gt (q := 11) (t := 26) rfl rfl rfl (fun h8 => ?_) (fun h8 => ?_)
      · refine R_iconst (q := 27) (v := nI 0) rfl rfl (by decide) ?_
        refine R_zreturn rfl rfl (by first | exact Or.inl rfl | exact Or.inr rfl | assumption) ?_
        first
          | exact ⟨FR_r, Or.inr ⟨(fun hQ => by have := hQ.1; rw [i_lt, i_0] at h1; omega), rfl, h⟩⟩
          | exact ⟨FR_r, Or.inr ⟨(fun hQ => by have := hQ.1; rw [i_lt, ik_255] at h8; omega), rfl, h⟩⟩
          | exact ⟨FR_r, Or.inr ⟨(fun hQ => hP hQ.2), rfl, h⟩⟩
          | (refine ⟨⟨rfl, fun k hk => by rw [mm_pn (by omega), mm_pn (by omega)]⟩, Or.inl ⟨⟨⟨by rw [i_lt, i_0] at h1; omega, by rw [i_lt, ik_255] at h8; omega⟩, hP⟩, rfl, ?_⟩⟩
             refine CI_t h ⟨⟨mm_pe, by rw [mm_pn (by decide)]; exact mm_pe, by show tp.1 + 1 ≤ 400; omega⟩, ?_⟩ (fun k hk => by rw [mm_pn (by omega), mm_pn (by omega)])
             intro i hi
             have hi : i < tp.1 + 1 := hi
             show 0 ≤ (upd tp.2 tp.1 b i).toInt ∧ (upd tp.2 tp.1 b i).toInt ≤ 255
             unfold upd
             split
             · rw [i_lt, i_0] at h1; rw [i_lt, ik_255] at h8; omega
             · exact ht.2 i (by omega))
      · refine R_aload_n (q := 12) rfl rfl rfl ?_
        refine R_getf (q := 15) rfl rfl rfl hq1 rfl ?_
        refine R_iload_n (q := 16) rfl rfl rfl ?_
        refine R_callv1 (q := 19) rfl rfl rfl rfl ht.1.1 (Nat.le_of_ble_eq_true rfl) rfl ?_
        refine R_mono (c96 ht.1 hP) (fun v16 M16 hr16 => ?_)
        obtain ⟨rfl, hm16⟩ := hr16
        rw [hm16]
        dsimp only [Option.toList, List.cons_append, List.nil_append]
        refine R_if_eq (q := 22) (t := 26) rfl rfl rfl (fun h19 => absurd h19 (by decide)) (fun h19 => ?_)
        refine R_iconst (q := 23) (v := nI 1) rfl rfl (by decide) ?_
        refine R_goto (t := 27) rfl rfl ?_
        refine R_zreturn rfl rfl (by first | exact Or.inl rfl | exact Or.inr rfl | assumption) ?_
        first
          | exact ⟨FR_r, Or.inr ⟨(fun hQ => by have := hQ.1; rw [i_lt, i_0] at h1; omega), rfl, h⟩⟩
          | exact ⟨FR_r, Or.inr ⟨(fun hQ => by have := hQ.1; rw [i_lt, ik_255] at h8; omega), rfl, h⟩⟩
          | exact ⟨FR_r, Or.inr ⟨(fun hQ => hP hQ.2), rfl, h⟩⟩
          | (refine ⟨⟨rfl, fun k hk => by rw [mm_pn (by omega), mm_pn (by omega)]⟩, Or.inl ⟨⟨⟨by rw [i_lt, i_0] at h1; omega, by rw [i_lt, ik_255] at h8; omega⟩, hP⟩, rfl, ?_⟩⟩
             refine CI_t h ⟨⟨mm_pe, by rw [mm_pn (by decide)]; exact mm_pe, by show tp.1 + 1 ≤ 400; omega⟩, ?_⟩ (fun k hk => by rw [mm_pn (by omega), mm_pn (by omega)])
             intro i hi
             have hi : i < tp.1 + 1 := hi
             show 0 ≤ (upd tp.2 tp.1 b i).toInt ∧ (upd tp.2 tp.1 b i).toInt ≤ 255
             unfold upd
             split
             · rw [i_lt, i_0] at h1; rw [i_lt, ik_255] at h8; omega
             · exact ht.2 i (by omega))
  · refine R_iload_n (q := 1) rfl rfl rfl ?_
    refine R_if_lt (q := 4) (t := 26) rfl rfl rfl (fun h1 => ?_) (fun h1 => ?_)
    · refine R_iconst (q := 27) (v := nI 0) rfl rfl (by decide) ?_
      refine R_zreturn rfl rfl (by first | exact Or.inl rfl | exact Or.inr rfl | assumption) ?_
      first
        | exact ⟨FR_r, Or.inr ⟨(fun hQ => by have := hQ.1; rw [i_lt, i_0] at h1; omega), rfl, h⟩⟩
        | exact ⟨FR_r, Or.inr ⟨(fun hQ => by have := hQ.1; rw [i_lt, ik_255] at h8; omega), rfl, h⟩⟩
        | exact ⟨FR_r, Or.inr ⟨(fun hQ => hP hQ.2), rfl, h⟩⟩
        | (refine ⟨⟨rfl, fun k hk => by rw [mm_pn (by omega), mm_pn (by omega)]⟩, Or.inl ⟨⟨⟨by rw [i_lt, i_0] at h1; omega, by rw [i_lt, ik_255] at h8; omega⟩, hP⟩, rfl, ?_⟩⟩
           refine CI_t h ⟨⟨mm_pe, by rw [mm_pn (by decide)]; exact mm_pe, by show tp.1 + 1 ≤ 400; omega⟩, ?_⟩ (fun k hk => by rw [mm_pn (by omega), mm_pn (by omega)])
           intro i hi
           have hi : i < tp.1 + 1 := hi
           show 0 ≤ (upd tp.2 tp.1 b i).toInt ∧ (upd tp.2 tp.1 b i).toInt ≤ 255
           unfold upd
           split
           · rw [i_lt, i_0] at h1; rw [i_lt, ik_255] at h8; omega
           · exact ht.2 i (by omega))
    · refine R_iload_n (q := 5) rfl rfl rfl ?_
      refine R_sipush (q := 8) (v := nI 255) rfl rfl (by decide) ?_
      refine R_icmp_gt (q := 11) (t := 26) rfl rfl rfl (fun h8 => ?_) (fun h8 => ?_)
      · refine R_iconst (q := 27) (v := nI 0) rfl rfl (by decide) ?_
        refine R_zreturn rfl rfl (by first | exact Or.inl rfl | exact Or.inr rfl | assumption) ?_
        first
          | exact ⟨FR_r, Or.inr ⟨(fun hQ => by have := hQ.1; rw [i_lt, i_0] at h1; omega), rfl, h⟩⟩
          | exact ⟨FR_r, Or.inr ⟨(fun hQ => by have := hQ.1; rw [i_lt, ik_255] at h8; omega), rfl, h⟩⟩
          | exact ⟨FR_r, Or.inr ⟨(fun hQ => hP hQ.2), rfl, h⟩⟩
          | (refine ⟨⟨rfl, fun k hk => by rw [mm_pn (by omega), mm_pn (by omega)]⟩, Or.inl ⟨⟨⟨by rw [i_lt, i_0] at h1; omega, by rw [i_lt, ik_255] at h8; omega⟩, hP⟩, rfl, ?_⟩⟩
             refine CI_t h ⟨⟨mm_pe, by rw [mm_pn (by decide)]; exact mm_pe, by show tp.1 + 1 ≤ 400; omega⟩, ?_⟩ (fun k hk => by rw [mm_pn (by omega), mm_pn (by omega)])
             intro i hi
             have hi : i < tp.1 + 1 := hi
             show 0 ≤ (upd tp.2 tp.1 b i).toInt ∧ (upd tp.2 tp.1 b i).toInt ≤ 255
             unfold upd
             split
             · rw [i_lt, i_0] at h1; rw [i_lt, ik_255] at h8; omega
             · exact ht.2 i (by omega))
      · refine R_aload_n (q := 12) rfl rfl rfl ?_
        refine R_getf (q := 15) rfl rfl rfl hq1 rfl ?_
        refine R_iload_n (q := 16) rfl rfl rfl ?_
        refine R_callv1 (q := 19) rfl rfl rfl rfl ht.1.1 (Nat.le_of_ble_eq_true rfl) rfl ?_
        refine R_mono (c96_full ht.1 (by have := ht.1.2.2; omega)) (fun v16 M16 hr16 => ?_)
        obtain ⟨rfl, hm16⟩ := hr16
        rw [hm16]
        dsimp only [Option.toList, List.cons_append, List.nil_append]
        refine R_if_eq (q := 22) (t := 26) rfl rfl rfl (fun h19 => ?_) (fun h19 => absurd rfl h19)
        refine R_iconst (q := 27) (v := nI 0) rfl rfl (by decide) ?_
        refine R_zreturn rfl rfl (by first | exact Or.inl rfl | exact Or.inr rfl | assumption) ?_
        first
          | exact ⟨FR_r, Or.inr ⟨(fun hQ => by have := hQ.1; rw [i_lt, i_0] at h1; omega), rfl, h⟩⟩
          | exact ⟨FR_r, Or.inr ⟨(fun hQ => by have := hQ.1; rw [i_lt, ik_255] at h8; omega), rfl, h⟩⟩
          | exact ⟨FR_r, Or.inr ⟨(fun hQ => hP hQ.2), rfl, h⟩⟩
          | (refine ⟨⟨rfl, fun k hk => by rw [mm_pn (by omega), mm_pn (by omega)]⟩, Or.inl ⟨⟨⟨by rw [i_lt, i_0] at h1; omega, by rw [i_lt, ik_255] at h8; omega⟩, hP⟩, rfl, ?_⟩⟩
             refine CI_t h ⟨⟨mm_pe, by rw [mm_pn (by decide)]; exact mm_pe, by show tp.1 + 1 ≤ 400; omega⟩, ?_⟩ (fun k hk => by rw [mm_pn (by omega), mm_pn (by omega)])
             intro i hi
             have hi : i < tp.1 + 1 := hi
             show 0 ≤ (upd tp.2 tp.1 b i).toInt ∧ (upd tp.2 tp.1 b i).toInt ≤ 255
             unfold upd
             split
             · rw [i_lt, i_0] at h1; rw [i_lt, ik_255] at h8; omega
             · exact ht.2 i (by omega))
def byA (tp : IS) (i : Int32) : Int32 := if i = (-1) then nI tp.1 else if 0 ≤ i.toInt ∧ i.toInt < tp.1 then tp.2 (sn i) else (-1000)
set_option maxRecDepth 8000 in
theorem c137 {i : Int32} (h : CI M sh o l pi fa tp) : mm_R S (d + 2) 137 0 (mm_en 137 [.ref 1, .int i]) [] M (fun v M' => M' = M ∧ v = some (.int (byA tp i))) := by
  show mm_R S (d + 2) 137 0 [some (.ref 1), some (.int i)] [] M _
  obtain ⟨hq1, sf, hq2, hsf⟩ := ci_0 h
  have ht := ci_t h
  unfold byA
  refine R_iload_n (q := 1) rfl rfl rfl ?_
  refine R_iconst (q := 2) (v := (-1)) rfl rfl (by decide) ?_
  refine R_icmp_ne (q := 5) (t := 13) rfl rfl rfl (fun h2 => ?_) (fun h2 => ?_)
  · refine R_aload_n (q := 14) rfl rfl rfl ?_
    refine R_getf (q := 17) rfl rfl rfl hq1 rfl ?_
    refine R_iload_n (q := 18) rfl rfl rfl ?_
    refine R_callv1 (q := 21) rfl rfl rfl rfl ht.1.1 (Nat.le_of_ble_eq_true rfl) rfl ?_
    refine R_mono (c94 ht.1) (fun v18 M18 hr18 => ?_)
    obtain ⟨rfl, hm18⟩ := hr18
    rw [hm18]
    dsimp only [Option.toList, List.cons_append, List.nil_append]
    refine R_if_eq (q := 24) (t := 35) rfl rfl rfl (fun h21 => ?_) (fun h21 => ?_)
    · refine R_sipush (q := 38) (v := (-1000)) rfl rfl (by decide) ?_
      refine R_ireturn rfl rfl ?_
      first
        | (rw [if_neg h2, if_neg (of_decide_eq_false (zb_eq0.mp h21))]; exact ⟨rfl, rfl⟩)
        | (rw [if_neg h2, if_pos (of_decide_eq_true (zb_ne0.mp h21)), if_pos (of_decide_eq_true (zb_ne0.mp h21))]; exact ⟨rfl, rfl⟩)
    · refine R_aload_n (q := 25) rfl rfl rfl ?_
      refine R_getf (q := 28) rfl rfl rfl hq1 rfl ?_
      refine R_iload_n (q := 29) rfl rfl rfl ?_
      refine R_callv1 (q := 32) rfl rfl rfl rfl ht.1.1 (Nat.le_of_ble_eq_true rfl) rfl ?_
      refine R_mono (c95 ht.1) (fun v29 M29 hr29 => ?_)
      obtain ⟨rfl, hm29⟩ := hr29
      rw [hm29]
      dsimp only [Option.toList, List.cons_append, List.nil_append]
      refine R_goto (t := 38) rfl rfl ?_
      refine R_ireturn rfl rfl ?_
      first
        | (rw [if_neg h2, if_neg (of_decide_eq_false (zb_eq0.mp h21))]; exact ⟨rfl, rfl⟩)
        | (rw [if_neg h2, if_pos (of_decide_eq_true (zb_ne0.mp h21)), if_pos (of_decide_eq_true (zb_ne0.mp h21))]; exact ⟨rfl, rfl⟩)
  · refine R_aload_n (q := 6) rfl rfl rfl ?_
    refine R_getf (q := 9) rfl rfl rfl hq1 rfl ?_
    refine R_callv0 (q := 12) rfl rfl rfl rfl ht.1.1 (Nat.le_of_ble_eq_true rfl) rfl ?_
    refine R_mono (c93 ht.1) (fun v9 M9 hr9 => ?_)
    obtain ⟨rfl, hm9⟩ := hr9
    rw [hm9]
    dsimp only [Option.toList, List.cons_append, List.nil_append]
    refine R_ireturn rfl rfl ?_
    rw [if_pos h2]
    exact ⟨rfl, rfl⟩
end P37
