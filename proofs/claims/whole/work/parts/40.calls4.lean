/-! ===== the desk's own calls, IV: split, write, read ===== -/
def kok (s : KS) : Prop := ∀ i, i < s.1 → i < 14 → (s.2.1 i = nI (oX s.2.1 i) ∧ oX s.2.1 i < 17) ∧ (s.2.2.1 i = nI (oX s.2.2.1 i) ∧ oX s.2.2.1 i ≤ oX s.2.2.2 i) ∧ s.2.2.2 i = nI (oX s.2.2.2 i) ∧ oX s.2.2.2 i < 17
theorem kok_kp {s : KS} {x y z : Nat} (h : kok s) (hx : x < 17) (hy : y ≤ z) (hz : z < 17) : kok (kp s (nI x) (nI y) (nI z)) := by
  intro i hi h14
  unfold kp at hi ⊢
  by_cases hs : s.1 < 14
  · rw [if_pos hs] at hi ⊢
    have hi : i < s.1 + 1 := hi
    by_cases hq : i = s.1
    · subst hq
      unfold oX upd
      dsimp only
      rw [if_pos rfl, if_pos rfl, if_pos rfl, cl_nI (by omega), cl_nI (by omega), cl_nI (by omega)]
      exact ⟨⟨rfl, hx⟩, ⟨rfl, hy⟩, rfl, hz⟩
    · have g := h i (by omega) h14
      unfold oX upd at *
      dsimp only at *
      rw [if_neg hq, if_neg hq, if_neg hq]
      exact g
  · rw [if_neg hs] at hi ⊢
    exact h i (by omega) h14
theorem re_hi {g : Nat → Bool} : ∀ n s, re g n s ≤ s + n := by
  intro n
  induction n with
  | zero => intro s; exact Nat.le_refl _
  | succ n ih =>
    intro s
    unfold re
    split
    · have := ih (s + 1); omega
    · omega
theorem kok_lvx {inn : Int32} {C : Nat → Bool} {y : Nat} (hy : y < 17) : ∀ k x s, x + k ≤ 16 → kok s → kok (lvx inn C y k x s) := by
  intro k
  induction k with
  | zero => intro x s _ h; exact h
  | succ k ih =>
    intro x s hx h
    unfold lvx
    refine ih (x + 1) _ (by omega) ?_
    split
    · rename_i hc
      have := re_hi (g := bt inn) (16 - x) x
      exact kok_kp h hy (by omega) (by omega)
    · exact h
theorem kok_lvy {V : Nat → Int32} {C : Nat → Nat → Bool} : ∀ k y s, y + k ≤ 17 → kok s → kok (lvy V C k y s) := by
  intro k
  induction k with
  | zero => intro y s _ h; exact h
  | succ k ih =>
    intro y s hy h
    unfold lvy
    exact ih (y + 1) _ (by omega) (kok_lvx (by omega) 15 1 s (by omega) h)
theorem kp_ge {s : KS} {x y z : Int32} : s.1 ≤ (kp s x y z).1 := by
  unfold kp
  split <;> exact Nat.le_succ _
theorem lvx_ge {inn : Int32} {C : Nat → Bool} {y : Nat} : ∀ k x s, s.1 ≤ (lvx inn C y k x s).1 := by
  intro k
  induction k with
  | zero => intro x s; exact Nat.le_refl _
  | succ k ih =>
    intro x s
    unfold lvx
    refine Nat.le_trans ?_ (ih (x + 1) _)
    split
    · exact kp_ge
    · exact Nat.le_refl _
theorem lvy_ge {V : Nat → Int32} {C : Nat → Nat → Bool} : ∀ k y s, s.1 ≤ (lvy V C k y s).1 := by
  intro k
  induction k with
  | zero => intro y s; exact Nat.le_refl _
  | succ k ih =>
    intro y s
    unfold lvy
    exact Nat.le_trans (lvx_ge 15 1 s) (ih (y + 1) _)
theorem FND_ok {f co ln st en : Nat → Int32} {s1 s2 : KS} (h : FND f co ln st en s1 s2) : kok s2 ∧ s1.1 ≤ s2.1 ∧ s2.1 < 1000 := by
  obtain ⟨h1, h2⟩ := h
  have k0 : kok (0, ln, st, en) := fun i hi => absurd hi (Nat.not_lt_zero _)
  have k1 : kok s1 := by rw [← h1]; exact kok_lvy 15 1 _ (by omega) k0
  have b1 : s1.1 ≤ 0 + 15 * 15 := by rw [← h1]; exact lvy_le 15 1 _ 0 (Nat.le_refl _)
  have b2 : s2.1 ≤ (0 + 15 * 15) + 15 * 15 := by rw [← h2]; exact lvy_le 15 1 _ _ b1
  refine ⟨by rw [← h2]; exact kok_lvy 15 1 _ (by omega) k1, by rw [← h2]; exact lvy_ge 15 1 _, by omega⟩
theorem okp_chl {to : Nat → Int32} {n lv : Nat} (hn : n ≤ 14) (hlv : lv ≤ n) : ∀ k i (s : ZS), okp s.2.2.2.1 → okp (chl to n lv k i s).2.2.2.1 := by
  intro k
  induction k with
  | zero => intro i s h; exact h
  | succ k ih =>
    intro i s h
    unfold chl
    refine ih (i + 1) _ ?_
    split
    · split
      · exact ga_ok hn hlv h
      · exact ga_ok hn hlv h
    · exact h
theorem okp_chall {to : Nat → Int32} {n lv : Nat} {s : PS} (hn : n ≤ 14) (hlv : lv ≤ n) (h : okp s.1) : okp (chall to n lv s).2.2.2.1 := okp_chl hn hlv n 0 _ (ga_ok hn hlv h)
def cht (s1 s2 : KS) (to : Nat → Int32) : Nat → Int32 := ti s2.2.1 s2.2.2.1 s2.2.2.2 s2.1 s1.1 s1.1 0 (ifl (fun _ => nI 0) to s2.1)
def SPQ (f co : Nat → Int32) (s1 s2 : KS) (to : Nat → Int32) (ps : PS) (q : QS) : QS := qcy (fun y => rm f y &&& rowv f (nI y)) 15 1 (qcs s1.1 (chall (cht s1 s2 to) s2.1 s1.1 ps).2.2.1 (oX s2.2.1) (oX s2.2.2.1) (oX s2.2.2.2) s2.1 0 (ifl (fun _ => nI 0) q.1 17, ifl (fun _ => nI 0) q.2.1 17, ifl (fun _ => nI 0) q.2.2.1 17, ifl (ifl (cornv f) co 17) q.2.2.2 17))
/-- the pieces that split leaves -/
def SPL (f p : Nat → Int32) (X : IS) : Prop := ∃ co ln st en s1 s2 to ps q u, FND f co ln st en s1 s2 ∧ s2.1 ≤ 14 ∧ okp ps.1 ∧ X = (clall (SPQ f co s1 s2 to ps q).1 (SPQ f co s1 s2 to ps q).2.1 f u p).2
def SPN (f : Nat → Int32) : Prop := ∃ co ln st en s1 s2, FND f co ln st en s1 s2 ∧ 14 < s2.1
section P40
variable {S : mm_S} {d : Nat} {M M' : mm_M} {sh : Nat → Nat → Int32} {o : OS} {l : LYS} {pi fa tp : IS}
theorem ct_self {a b c d1 : Nat → Int32} (h1 : M.1 43 = some (ia 17 a)) (h2 : M.1 44 = some (ia 17 b)) (h3 : M.1 45 = some (ia 17 c)) (h4 : M.1 46 = some (ia 17 d1)) : ctm M (a, b, c, d1) = M := by
  obtain ⟨m, z⟩ := M
  unfold ctm
  congr 1
  funext k
  dsimp only at *
  by_cases k1 : k = 43
  · subst k1; rw [if_pos rfl]; exact h1.symm
  · by_cases k2 : k = 44
    · subst k2; rw [if_neg k1, if_pos rfl]; exact h2.symm
    · by_cases k3 : k = 45
      · subst k3; rw [if_neg k1, if_neg k2, if_pos rfl]; exact h3.symm
      · by_cases k4 : k = 46
        · subst k4; rw [if_neg k1, if_neg k2, if_neg k3, if_pos rfl]; exact h4.symm
        · rw [if_neg k1, if_neg k2, if_neg k3, if_neg k4]
theorem CI_ctm {q : QS} (h : CI M sh o l pi fa tp) : CI (ctm M q) sh o l pi fa tp := by
  obtain ⟨h1, -, h3, u, h4⟩ := ci_u h
  refine CI_u h ⟨ct_42 h1, ⟨q.1, q.2.1, q.2.2.1, q.2.2.2, rfl, rfl, rfl, rfl⟩, by rw [ct_off (by omega)]; exact h3, u, by rw [ct_off (by omega)]; exact h4⟩ (fun k hk => ct_off (by omega))
theorem cly_le {lc uc : Nat → Int32} : ∀ k y (s : CLS), s.2.1 ≤ 256 → (cly lc uc k y s).2.1 ≤ 256 := by
  have hx : ∀ y k x (s : CLS), s.2.1 ≤ 256 → (clx lc uc y k x s).2.1 ≤ 256 := by
    intro y k
    induction k with
    | zero => intro x s h; exact h
    | succ k ih =>
      intro x s h
      unfold clx
      refine ih (x + 1) _ ?_
      split
      · exact fapp_le h
      · exact h
  intro k
  induction k with
  | zero => intro y s h; exact h
  | succ k ih =>
    intro y s h
    unfold cly
    exact ih (y + 1) _ (hx y 16 0 s h)
theorem CI_col {s : CLS} (h : CI M sh o l pi fa tp) (hs : s.2.1 ≤ 256) : CI (col M s) sh o l s.2 fa tp := by
  obtain ⟨h1, h2, h3, u, h4⟩ := ci_u h
  have g := CI_u (M' := mm_put M 48 (ro s.1)) h ⟨by unfold CUF; rw [mm_pn (by omega)]; exact h1, by rw [mm_pn (by omega), mm_pn (by omega), mm_pn (by omega), mm_pn (by omega)]; exact h2, by rw [mm_pn (by omega)]; exact h3, s.1, mm_pe⟩ (fun k hk => mm_pn (by omega))
  exact CI_pi g (itm_IT hs) (fun k hk => by unfold col itm; rw [mm_pn (by omega), mm_pn (by omega)])
theorem FR_ctm {q : QS} : FR M (ctm M q) := ⟨rfl, fun k hk => ct_off (by omega)⟩
theorem FR_col {s : CLS} : FR M (col M s) := ⟨rfl, fun k hk => col_off (by omega)⟩
set_option maxRecDepth 8000 in
theorem c133 {s : Int32} (h : CI M sh o l pi fa tp) : mm_R S (d + 19) 133 0 (mm_en 133 [.ref 1, .int s]) [] M (fun v M' => FR M M' ∧ (shp s ∧ (∃ X, SPL (sh (sn s)) pi.2 X ∧ v = some (.int (nI X.1)) ∧ CI M' sh o l X fa tp) ∨ (¬ shp s ∨ SPN (sh (sn s))) ∧ v = some (.int (-1000)) ∧ CI M' sh o l pi fa tp)) := by
  show mm_R S (d + 19) 133 0 [some (.ref 1), some (.int s)] [] M _
  obtain ⟨hq1, sf, hq2, hsf⟩ := ci_0 h
  refine R_iload_n (q := 1) rfl rfl rfl ?_
  refine R_calls1 (q := 4) rfl rfl rfl rfl (Nat.le_of_ble_eq_true rfl) rfl ?_
  refine R_mono (c139) (fun v1 M1 hr1 => ?_)
  obtain ⟨rfl, hm1⟩ := hr1
  rw [hm1]
  dsimp only [Option.toList, List.cons_append, List.nil_append]
  refine R_if_ne (q := 7) (t := 11) rfl rfl rfl (fun h4 => ?_) (fun h4 => ?_)
  · have hP : shp s := of_decide_eq_true (zb_ne0.mp h4)
    obtain ⟨k, hk, rfl⟩ := i_ix (a := s) 6 (by decide) hP.1 hP.2
    have e1 : sn (nI k) = k := cl_nI (by omega)
    rw [e1]
    have hS := ((ci_h h) k hk).1
    obtain ⟨z1, z2, z3, z4, z5, z6, z7, z8, z9, z10, hc0, hp0⟩ := ci_c h
    refine R_aload_n (q := 12) rfl rfl rfl ?_
    refine R_getf (q := 15) rfl rfl rfl hq1 rfl ?_
    refine R_aload_n (q := 16) rfl rfl rfl ?_
    refine R_getf (q := 19) rfl rfl rfl hq1 rfl ?_
    refine R_iload_n (q := 20) rfl rfl rfl ?_
    refine R_aaload (q := 21) rfl rfl hq2 rfl (by first | assumption | exact in_nI (by omega) (by decide)) (by rw [cl_nI (by omega)]; exact hsf k hk) ?_
    refine R_callv1 (q := 24) rfl rfl rfl rfl hc0.1 (Nat.le_of_ble_eq_true rfl) rfl ?_
    refine R_mono (c19q hS (by omega) (ci_c h)) (fun v21 M21 hr21 => ?_)
    obtain ⟨rfl, co, ln, st, en, to, pa, tr, s1, s2, hfd, hpa, hm21⟩ := hr21
    rw [hm21]
    dsimp only [Option.toList, List.cons_append, List.nil_append]
    unfold chk
    obtain ⟨hkok, hs12, hs2⟩ := FND_ok hfd
    refine R_aload_n (q := 25) rfl rfl rfl ?_
    refine R_getf (q := 28) rfl rfl rfl (by rw [ch_off (by omega)]; exact hq1) rfl ?_
    refine R_callv0 (q := 31) rfl rfl rfl rfl ch_35 (Nat.le_of_ble_eq_true rfl) rfl ?_
    refine R_mono (c21 hs2) (fun v28 M28 hr28 => ?_)
    obtain ⟨rfl, hm28⟩ := hr28
    rw [hm28]
    dsimp only [Option.toList, List.cons_append, List.nil_append]
    refine R_if_ne (q := 34) (t := 38) rfl rfl rfl (fun h31 => ?_) (fun h31 => ?_)
    · have hn14 : s2.1 ≤ 14 := of_decide_eq_true (zb_ne0.mp h31)
      refine R_aload_n (q := 39) rfl rfl rfl ?_
      refine R_getf (q := 42) rfl rfl rfl (by rw [ch_off (by omega)]; exact hq1) rfl ?_
      refine R_callv0 (q := 45) rfl rfl rfl rfl ch_35 (Nat.le_of_ble_eq_true rfl) rfl ?_
      refine R_mono (c34 hn14 hs12 hpa) (fun v42 M42 hr42 => ?_)
      obtain ⟨rfl, hm42⟩ := hr42
      have hok : okp (chall (cht s1 s2 to) s2.1 s1.1 (pa, tr)).2.2.2.1 := okp_chall hn14 hs12 hpa
      have hci2 : CI M42 sh o l pi fa tp := by rw [hm42]; exact CI_chm h hok
      have hfr2 : FR M M42 := by rw [hm42]; exact FR_chm
      have hchf : CHF M42 (ifl (cornv (sh k)) co 17) s2.2.1 s2.2.2.1 s2.2.2.2 (cht s1 s2 to) (chall (cht s1 s2 to) s2.1 s1.1 (pa, tr)).2.2.2.1 (nI s2.1) (nI s1.1) (chall (cht s1 s2 to) s2.1 s1.1 (pa, tr)).2.2.1 (chall (cht s1 s2 to) s2.1 s1.1 (pa, tr)).2.2.2.2 := by rw [hm42]; exact ⟨rfl, rfl, rfl, rfl, rfl, rfl, rfl⟩
      clear hm42
      dsimp only [Option.toList, List.cons_append, List.nil_append]
      have hS2 := ((ci_h hci2) k hk).1
      obtain ⟨hy1, sf2, hy2, hsf2⟩ := ci_0 hci2
      obtain ⟨hu1, ⟨qa, qb, qc, qd, hu2, hu3, hu4, hu5⟩, hu6, u0, hu7⟩ := ci_u hci2
      have hself := ct_self hu2 hu3 hu4 hu5
      have hc40 := c40 (S := S) (d := d + 15) (lc := qa) (uc := qb) (cp := qc) (oc := qd) hu1 hS2 (by omega) hchf hn14 (by omega) (fun i hi => hkok i hi (by omega))
      rw [hself] at hc40
      refine R_aload_n (q := 46) rfl rfl rfl ?_
      refine R_getf (q := 49) rfl rfl rfl hy1 rfl ?_
      refine R_aload_n (q := 50) rfl rfl rfl ?_
      refine R_getf (q := 53) rfl rfl rfl hy1 rfl ?_
      refine R_iload_n (q := 54) rfl rfl rfl ?_
      refine R_aaload (q := 55) rfl rfl hy2 rfl (by first | assumption | exact in_nI (by omega) (by decide)) (by rw [cl_nI (by omega)]; exact hsf2 k hk) ?_
      refine R_aload_n (q := 56) rfl rfl rfl ?_
      refine R_getf (q := 59) rfl rfl rfl hy1 rfl ?_
      refine R_callv2 (q := 62) rfl rfl rfl rfl hu1 (Nat.le_of_ble_eq_true rfl) rfl ?_
      refine R_mono (hc40) (fun v59 M59 hr59 => ?_)
      obtain ⟨rfl, hm59⟩ := hr59
      have hmq : M59 = ctm M42 (SPQ (sh k) co s1 s2 to (pa, tr) (qa, qb, qc, qd)) := hm59
      rw [hmq]
      dsimp only [Option.toList, List.cons_append, List.nil_append]
      have hci3 := CI_ctm (q := SPQ (sh k) co s1 s2 to (pa, tr) (qa, qb, qc, qd)) hci2
      have hfr3 : FR M (ctm M42 (SPQ (sh k) co s1 s2 to (pa, tr) (qa, qb, qc, qd))) := FR_t hfr2 FR_ctm
      have hS3 := ((ci_h hci3) k hk).1
      have hI3 := ci_p hci3
      have hclf : CLF (ctm M42 (SPQ (sh k) co s1 s2 to (pa, tr) (qa, qb, qc, qd))) (SPQ (sh k) co s1 s2 to (pa, tr) (qa, qb, qc, qd)).1 (SPQ (sh k) co s1 s2 to (pa, tr) (qa, qb, qc, qd)).2.1 := ⟨ct_42 hu1, rfl, rfl, by rw [ct_off (by omega)]; exact hu6⟩
      have hu73 : (ctm M42 (SPQ (sh k) co s1 s2 to (pa, tr) (qa, qb, qc, qd))).1 48 = some (ro u0) := by rw [ct_off (by omega)]; exact hu7
      obtain ⟨hx1, sf3, hx2, hsf3⟩ := ci_0 hci3
      have hXe : SPL (sh k) pi.2 (clall (SPQ (sh k) co s1 s2 to (pa, tr) (qa, qb, qc, qd)).1 (SPQ (sh k) co s1 s2 to (pa, tr) (qa, qb, qc, qd)).2.1 (sh k) u0 pi.2).2 := ⟨co, ln, st, en, s1, s2, to, (pa, tr), (qa, qb, qc, qd), u0, hfd, hn14, hpa, rfl⟩
      have hXl : (clall (SPQ (sh k) co s1 s2 to (pa, tr) (qa, qb, qc, qd)).1 (SPQ (sh k) co s1 s2 to (pa, tr) (qa, qb, qc, qd)).2.1 (sh k) u0 pi.2).2.1 ≤ 256 := cly_le 16 0 _ (Nat.zero_le _)
      revert hci3 hfr3 hS3 hI3 hclf hu73 hx1 hx2 hXe hXl
      generalize SPQ (sh k) co s1 s2 to (pa, tr) (qa, qb, qc, qd) = Q
      intro hci3 hfr3 hS3 hI3 hclf hu73 hx1 hx2 hXe hXl
      refine R_aload_n (q := 63) rfl rfl rfl ?_
      refine R_getf (q := 66) rfl rfl rfl hx1 rfl ?_
      refine R_aload_n (q := 67) rfl rfl rfl ?_
      refine R_getf (q := 70) rfl rfl rfl hx1 rfl ?_
      refine R_iload_n (q := 71) rfl rfl rfl ?_
      refine R_aaload (q := 72) rfl rfl hx2 rfl (by first | assumption | exact in_nI (by omega) (by decide)) (by rw [cl_nI (by omega)]; exact hsf3 k hk) ?_
      refine R_aload_n (q := 73) rfl rfl rfl ?_
      refine R_getf (q := 76) rfl rfl rfl hx1 rfl ?_
      refine R_callv2 (q := 79) rfl rfl rfl rfl hclf.1 (Nat.le_of_ble_eq_true rfl) rfl ?_
      refine R_mono (c45 hclf hu73 hI3 hS3 (by omega)) (fun v76 M76 hr76 => ?_)
      obtain ⟨rfl, hm76⟩ := hr76
      rw [hm76]
      dsimp only [Option.toList, List.cons_append, List.nil_append]
      revert hXe hXl
      generalize clall Q.1 Q.2.1 (sh k) u0 pi.2 = X
      intro hXe hXl
      have hci4 := CI_col hci3 hXl
      obtain ⟨hw1, -⟩ := ci_0 hci4
      have hI4 := ci_p hci4
      refine R_aload_n (q := 80) rfl rfl rfl ?_
      refine R_getf (q := 83) rfl rfl rfl hw1 rfl ?_
      refine R_callv0 (q := 86) rfl rfl rfl rfl hI4.1 (Nat.le_of_ble_eq_true rfl) rfl ?_
      refine R_mono (c50 hI4) (fun v83 M83 hr83 => ?_)
      obtain ⟨rfl, hm83⟩ := hr83
      rw [hm83]
      dsimp only [Option.toList, List.cons_append, List.nil_append]
      refine R_ireturn rfl rfl ?_
      exact ⟨FR_t hfr3 FR_col, Or.inl ⟨hP, X.2, hXe, rfl, hci4⟩⟩
    · refine R_sipush (q := 37) (v := (-1000)) rfl rfl (by decide) ?_
      refine R_ireturn rfl rfl ?_
      exact ⟨FR_chm, Or.inr ⟨Or.inr ⟨co, ln, st, en, s1, s2, hfd, Nat.lt_of_not_le (of_decide_eq_false (zb_eq0.mp h31))⟩, rfl, CI_chm h hpa⟩⟩
  · refine R_sipush (q := 10) (v := (-1000)) rfl rfl (by decide) ?_
    refine R_ireturn rfl rfl ?_
    exact ⟨FR_r, Or.inr ⟨Or.inl (of_decide_eq_false (zb_eq0.mp h4)), rfl, h⟩⟩
def WRT (pi : IS) (X : ES) : Prop := ∃ ob g, X = (drf pi.1 pi.2 ob g).1
theorem wt_self {s : ES} {xs ys : Nat → Int32} {m : Nat} (h1 : M.1 55 = some (twh m s.2)) (h2 : M.1 56 = some (tph s.1.1)) (h3 : M.1 57 = some (ia 400 s.1.2)) (h4 : M.1 58 = some (ia 256 xs)) (h5 : M.1 59 = some (ia 256 ys)) : wtm M s xs ys m = M := by
  obtain ⟨mm, z⟩ := M
  unfold wtm
  congr 1
  funext k
  dsimp only at *
  by_cases k1 : k = 55
  · subst k1; rw [if_pos rfl]; exact h1.symm
  · by_cases k2 : k = 56
    · subst k2; rw [if_neg k1, if_pos rfl]; exact h2.symm
    · by_cases k3 : k = 57
      · subst k3; rw [if_neg k1, if_neg k2, if_pos rfl]; exact h3.symm
      · by_cases k4 : k = 58
        · subst k4; rw [if_neg k1, if_neg k2, if_neg k3, if_pos rfl]; exact h4.symm
        · by_cases k5 : k = 59
          · subst k5; rw [if_neg k1, if_neg k2, if_neg k3, if_neg k4, if_pos rfl]; exact h5.symm
          · rw [if_neg k1, if_neg k2, if_neg k3, if_neg k4, if_neg k5]
theorem CI_wtm {s : ES} {xs ys : Nat → Int32} {m : Nat} (h : CI M sh o l pi fa tp) (hs : s.1.1 ≤ 400) : CI (wtm M s xs ys m) sh o l pi fa tp := CI_w h ⟨s, (m, xs, ys), hs, rfl, rfl, rfl, rfl, rfl⟩ (fun k hk => wt_off (by omega))
theorem FR_wtm {s : ES} {xs ys : Nat → Int32} {m : Nat} : FR M (wtm M s xs ys m) := ⟨rfl, fun k hk => wt_off (by omega)⟩
theorem drf_le {n : Nat} {p ob : Nat → Int32} {g : GS} : (drf n p ob g).1.1.1 ≤ 400 := em_le (drl_le 256 _ (Nat.zero_le _))
set_option maxRecDepth 8000 in
theorem c135 (hV : ∀ X, WRT pi X → ∀ i, i < X.1.1 → 0 ≤ (X.1.2 i).toInt ∧ (X.1.2 i).toInt ≤ 255) (h : CI M sh o l pi fa tp) : mm_R S (d + 5) 135 0 (mm_en 135 [.ref 1]) [] M (fun v M' => FR M M' ∧ ∃ X, WRT pi X ∧ (X.2 = true ∧ v = some (.int (nI X.1.1)) ∧ CI M' sh o l pi fa (X.1.1, ifl X.1.2 tp.2 X.1.1) ∨ X.2 = false ∧ v = some (.int (-1000)) ∧ CI M' sh o l pi fa tp)) := by
  show mm_R S (d + 5) 135 0 [some (.ref 1)] [] M _
  obtain ⟨hq1, sf, hq2, hsf⟩ := ci_0 h
  obtain ⟨ws, wg, hw0, hw1, hw2, hw3, hw4, hw5⟩ := ci_w h
  have hself := wt_self hw1 hw2 hw3 hw4 hw5
  have h108 := c108 (S := S) (d := d + 0) (g := wg) (s := ws) (ci_p h) hw0
  rw [hself] at h108
  refine R_aload_n (q := 1) rfl rfl rfl ?_
  refine R_getf (q := 4) rfl rfl rfl hq1 rfl ?_
  refine R_aload_n (q := 5) rfl rfl rfl ?_
  refine R_getf (q := 8) rfl rfl rfl hq1 rfl ?_
  refine R_callv1 (q := 11) rfl rfl rfl rfl hw1 (Nat.le_of_ble_eq_true rfl) rfl ?_
  refine R_mono (h108) (fun v8 M8 hr8 => ?_)
  obtain ⟨rfl, hm8⟩ := hr8 _ rfl
  rw [hm8]
  have hWR : WRT pi (drf pi.1 pi.2 ws.1.2 wg).1 := ⟨_, _, rfl⟩
  have hle := drf_le (n := pi.1) (p := pi.2) (ob := ws.1.2) (g := wg)
  revert hWR hle
  generalize drf pi.1 pi.2 ws.1.2 wg = X
  intro hWR hle
  dsimp only [Option.toList, List.cons_append, List.nil_append]
  have hci := CI_wtm (s := X.1) (xs := X.2.2.1) (ys := X.2.2.2) (m := X.2.1) h hle
  obtain ⟨hy1, -⟩ := ci_0 hci
  have ht := ci_t hci
  refine R_if_ne (q := 14) (t := 18) rfl rfl rfl (fun h11 => ?_) (fun h11 => ?_)
  · refine R_aload_n (q := 19) rfl rfl rfl ?_
    refine R_getf (q := 22) rfl rfl rfl hy1 rfl ?_
    refine R_aload_n (q := 23) rfl rfl rfl ?_
    refine R_getf (q := 26) rfl rfl rfl hy1 rfl ?_
    refine R_callv0 (q := 29) rfl rfl rfl rfl wt_55 (Nat.le_of_ble_eq_true rfl) rfl ?_
    refine R_mono (c107) (fun v26 M26 hr26 => ?_)
    obtain ⟨rfl, hm26⟩ := hr26
    rw [hm26]
    dsimp only [Option.toList, List.cons_append, List.nil_append]
    refine R_callv1 (q := 32) rfl rfl rfl rfl ht.1.1 (Nat.le_of_ble_eq_true rfl) rfl ?_
    refine R_mono (c97 ht.1 (wt_TP hle) (by omega)) (fun v29 M29 hr29 => ?_)
    obtain ⟨rfl, hm29⟩ := hr29
    rw [hm29]
    dsimp only [Option.toList, List.cons_append, List.nil_append]
    have hT : TP (mm_put (mm_put (wtm M X.1 X.2.2.1 X.2.2.2 X.2.1) 53 (.inr (8, [.ref (53 + 1), .int (nI X.1.1.1)]))) (53 + 1) (.inl (0, 400, .inl (ifl X.1.1.2 tp.2 X.1.1.1)))) 53 X.1.1.1 (ifl X.1.1.2 tp.2 X.1.1.1) := ⟨by rw [mm_pn (by decide)]; exact mm_pe, mm_pe, hle⟩
    refine R_aload_n (q := 33) rfl rfl rfl ?_
    refine R_getf (q := 36) rfl rfl rfl (by rw [mm_pn (by decide), mm_pn (by decide)]; exact hy1) rfl ?_
    refine R_callv0 (q := 39) rfl rfl rfl rfl hT.1 (Nat.le_of_ble_eq_true rfl) rfl ?_
    refine R_mono (c93 hT) (fun v36 M36 hr36 => ?_)
    obtain ⟨rfl, hm36⟩ := hr36
    rw [hm36]
    dsimp only [Option.toList, List.cons_append, List.nil_append]
    refine R_ireturn rfl rfl ?_
    refine ⟨FR_t FR_wtm ⟨rfl, fun k hk => by rw [mm_pn (by omega), mm_pn (by omega)]⟩, X.1, hWR, Or.inl ⟨zb_ne0.mp h11, rfl, ?_⟩⟩
    exact CI_t hci ⟨hT, fun i hi => by show 0 ≤ (ifl X.1.1.2 tp.2 X.1.1.1 i).toInt ∧ (ifl X.1.1.2 tp.2 X.1.1.1 i).toInt ≤ 255; rw [ifl_lt hi]; exact hV _ hWR i hi⟩ (fun k hk => by rw [mm_pn (by omega), mm_pn (by omega)])
  · refine R_sipush (q := 17) (v := (-1000)) rfl rfl (by decide) ?_
    refine R_ireturn rfl rfl ?_
    exact ⟨FR_wtm, X.1, hWR, Or.inr ⟨zb_eq0.mp h11, rfl, hci⟩⟩
def RED (tp : IS) (a : Int32) (G : Nat → Int32) : Prop := ∃ r g, a = (rdd tp.1 tp.2 r g).1 ∧ G = (rdd tp.1 tp.2 r g).2.2.2
theorem hb_r12 {f : Nat → Int32} {r : R4} (h : ∀ y, y < 16 → hb (f y)) : ∀ y, y < 16 → hb (r12 f r y) := by
  unfold r12
  split
  · exact hb_add4 (by assumption) h
  · exact h
theorem hb_rdr {x y dx dy w h1 : Int32} : ∀ j i (f : Nat → Int32), (∀ y, y < 16 → hb (f y)) → ∀ z, z < 16 → hb (rdr x y dx dy w h1 j i f z) := by
  intro j
  induction j with
  | zero => intro i f h; exact h
  | succ j ih => intro i f h; exact ih (i + 1) _ (hb_r12 h)
theorem hb_acc {b : Int32} {r : RS} {f : Nat → Int32} (hd : r.due ≤ 8) (h : ∀ y, y < 16 → hb (f y)) : ∀ z, z < 16 → hb ((acc b r f).2.2 z) := by
  have hcs : r.due = 0 ∨ r.due = 1 ∨ r.due = 2 ∨ r.due = 3 ∨ r.due = 4 ∨ r.due = 5 ∨ r.due = 6 ∨ r.due = 7 ∨ r.due = 8 := by omega
  rcases hcs with hq | hq | hq | hq | hq | hq | hq | hq | hq
  · rw [acc_0 hq]; exact h
  · rw [acc_1 hq]; exact h
  · rw [acc_2 hq]; exact h
  · rw [acc_3 hq]; exact h
  · rw [acc_4 hq]; exact h
  · rw [acc_5 hq]
    split
    · exact hb_rdr _ _ _ h
    · exact h
  · rw [acc_6 hq]; exact h
  · rw [acc_7 hq]
    split
    · exact hb_rdr _ _ _ h
    · exact h
  · rw [acc_8 hq]; exact h
theorem hb_rdg {p : Nat → Int32} : ∀ j i (u : RA), u.2.1.due ≤ 8 → (∀ y, y < 16 → hb (u.2.2 y)) → ∀ z, z < 16 → hb ((rdg p j i u).2.2.2 z) := by
  intro j
  induction j with
  | zero => intro i u _ h; exact h
  | succ j ih =>
    intro i u hd h
    unfold rdg
    split
    · exact ih (i + 1) _ (acc_due hd) (hb_acc hd h)
    · exact hb_acc hd h
theorem RED_hb {a : Int32} {G : Nat → Int32} (h : RED tp a G) : ∀ z, z < 16 → hb (G z) := by
  obtain ⟨r, g, -, rfl⟩ := h
  exact hb_rdg tp.1 0 (true, rst r, ifl (fun _ => nI 0) g 16) (Nat.zero_le _) (fun y hy => by show hb (ifl (fun _ => nI 0) g 16 y); rw [ifl_lt hy]; exact hb_0)
theorem rd_self {r : RS} {f : Nat → Int32} (h1 : M.1 60 = some (rdl r)) (h2 : M.1 4 = some (ro f)) : rdm M r f = M := by
  obtain ⟨mm, z⟩ := M
  unfold rdm
  congr 1
  funext k
  dsimp only at *
  by_cases k1 : k = 60
  · subst k1; rw [if_pos rfl]; exact h1.symm
  · by_cases k2 : k = 4
    · subst k2; rw [if_neg k1, if_pos rfl]; exact h2.symm
    · rw [if_neg k1, if_neg k2]
theorem CI_rdm {r : RS} {f : Nat → Int32} (h : CI M sh o l pi fa tp) : CI (rdm M r f) sh o l pi fa tp := by
  obtain ⟨g, hg⟩ := ci_s h
  have h1 := CI_4 (g := f) h
  have h2 := CI_r (M' := mm_put (mm_put M 4 (ro f)) 60 (rdl r)) h1 ⟨r, mm_pe⟩ (fun k hk => mm_pn (by omega))
  have he : mm_put (mm_put M 4 (ro f)) 60 (rdl r) = rdm M r f := rfl
  rw [he] at h2
  exact h2
theorem FR_rdm {r : RS} {f : Nat → Int32} : FR M (rdm M r f) := ⟨rfl, fun k hk => rd_off (by omega)⟩
theorem CI_53 (h : CI M sh o l pi fa tp) : CI (mm_put M 53 (.inr (8, [.ref (53 + 1), .int (nI 0)]))) sh o l pi fa (0, tp.2) := by
  have ht := ci_t h
  exact CI_t h ⟨⟨mm_pe, by rw [mm_pn (by decide)]; exact ht.1.2.1, Nat.zero_le _⟩, fun i hi => absurd hi (Nat.not_lt_zero _)⟩ (fun k hk => mm_pn (by omega))
set_option maxRecDepth 8000 in
theorem c138 {s : Int32} (h : CI M sh o l pi fa tp) : mm_R S (d + 6) 138 0 (mm_en 138 [.ref 1, .int s]) [] M (fun v M' => FR M M' ∧ (¬ shp s ∧ v = some (.int (-1000)) ∧ CI M' sh o l pi fa tp ∨ shp s ∧ ∃ a G, RED tp a G ∧ v = some (.int a) ∧ (a < 0 ∧ CI M' sh o l pi fa (0, tp.2) ∨ ¬ a < 0 ∧ CI M' (ups sh (sn s) (ifl G (sh (sn s)) 16)) o l pi fa (0, tp.2)))) := by
  show mm_R S (d + 6) 138 0 [some (.ref 1), some (.int s), none] [] M _
  obtain ⟨hq1, sf, hq2, hsf⟩ := ci_0 h
  obtain ⟨g0, hg0⟩ := ci_s h
  obtain ⟨r0, hr0⟩ := ci_r h
  have ht0 := ci_t h
  have hself := rd_self hr0 hg0.2
  have h99 := c99 (S := S) (d := d) (r := r0) (f := g0) hg0.1 ht0.1
  rw [hself] at h99
  refine R_iload_n (q := 1) rfl rfl rfl ?_
  refine R_calls1 (q := 4) rfl rfl rfl rfl (Nat.le_of_ble_eq_true rfl) rfl ?_
  refine R_mono (c139) (fun v1 M1 hr1 => ?_)
  obtain ⟨rfl, hm1⟩ := hr1
  rw [hm1]
  dsimp only [Option.toList, List.cons_append, List.nil_append]
  refine R_if_ne (q := 7) (t := 11) rfl rfl rfl (fun h4 => ?_) (fun h4 => ?_)
  · have hP : shp s := of_decide_eq_true (zb_ne0.mp h4)
    obtain ⟨k, hk, rfl⟩ := i_ix (a := s) 6 (by decide) hP.1 hP.2
    have e1 : sn (nI k) = k := cl_nI (by omega)
    rw [e1]
    refine R_aload_n (q := 12) rfl rfl rfl ?_
    refine R_getf (q := 15) rfl rfl rfl hq1 rfl ?_
    refine R_aload_n (q := 16) rfl rfl rfl ?_
    refine R_getf (q := 19) rfl rfl rfl hq1 rfl ?_
    refine R_aload_n (q := 20) rfl rfl rfl ?_
    refine R_getf (q := 23) rfl rfl rfl hq1 rfl ?_
    refine R_callv2 (q := 26) rfl rfl rfl rfl hr0 (Nat.le_of_ble_eq_true rfl) rfl ?_
    refine R_mono (h99) (fun v23 M23 hr23 => ?_)
    obtain ⟨rfl, hm23⟩ := hr23 _ rfl
    rw [hm23]
    have hRD : RED tp (rdd tp.1 tp.2 r0 g0).1 (rdd tp.1 tp.2 r0 g0).2.2.2 := ⟨_, _, rfl, rfl⟩
    revert hRD
    generalize rdd tp.1 tp.2 r0 g0 = X
    intro hRD
    dsimp only [Option.toList, List.cons_append, List.nil_append]
    have hci := CI_rdm (r := X.2.2.1) (f := X.2.2.2) h
    have hfr : FR M (rdm M X.2.2.1 X.2.2.2) := FR_rdm
    have hg1 : CA (rdm M X.2.2.1 X.2.2.2) 3 X.2.2.2 := rd_CA hg0.1
    revert hci hfr hg1
    generalize rdm M X.2.2.1 X.2.2.2 = M1
    intro hci hfr hg1
    obtain ⟨hy1, sf2, hy2, hsf2⟩ := ci_0 hci
    have hS := ((ci_h hci) k hk).1
    have ht := ci_t hci
    have hci2 := CI_sh (f := ifl X.2.2.2 (sh k) 16) hci hk (fun y hy => by rw [ifl_lt hy]; exact RED_hb hRD y hy)
    have ht2 := ci_t hci2
    refine R_istore_n (q := 27) rfl rfl (Nat.le_of_ble_eq_true rfl) rfl ?_
    dsimp only [List.set]
    refine R_iload_n (q := 28) rfl rfl rfl ?_
    refine R_if_lt (q := 31) (t := 44) rfl rfl rfl (fun h28 => ?_) (fun h28 => ?_)
    · refine R_aload_n (q := 45) rfl rfl rfl ?_
      refine R_getf (q := 48) rfl rfl rfl (by first | exact hy1 | (rw [mm_pn (by omega)]; exact hy1)) rfl ?_
      refine R_callv0 (q := 51) rfl rfl rfl rfl (by first | exact ht2.1.1 | exact ht.1.1) (Nat.le_of_ble_eq_true rfl) rfl ?_
      refine R_mono (c92 (by first | exact ht2.1 | exact ht.1)) (fun v48 M48 hr48 => ?_)
      obtain ⟨rfl, hm48⟩ := hr48
      rw [hm48]
      dsimp only [Option.toList, List.cons_append, List.nil_append]
      refine R_iload_n (q := 52) rfl rfl rfl ?_
      refine R_ireturn rfl rfl ?_
      first
        | exact ⟨FR_t hfr (FR_p (by decide)), Or.inr ⟨hP, _, _, hRD, rfl, Or.inl ⟨h28, CI_53 hci⟩⟩⟩
        | exact ⟨FR_t hfr (FR_t (FR_p (by omega)) (FR_p (by decide))), Or.inr ⟨hP, _, _, hRD, rfl, Or.inr ⟨h28, CI_53 hci2⟩⟩⟩
    · refine R_aload_n (q := 32) rfl rfl rfl ?_
      refine R_getf (q := 35) rfl rfl rfl hy1 rfl ?_
      refine R_iload_n (q := 36) rfl rfl rfl ?_
      refine R_aaload (q := 37) rfl rfl hy2 rfl (by first | assumption | exact in_nI (by omega) (by decide)) (by rw [cl_nI (by omega)]; exact hsf2 k hk) ?_
      refine R_aload_n (q := 38) rfl rfl rfl ?_
      refine R_getf (q := 41) rfl rfl rfl hy1 rfl ?_
      refine R_callv1 (q := 44) rfl rfl rfl rfl hS.1 (Nat.le_of_ble_eq_true rfl) rfl ?_
      refine R_mono (c8 hS hg1) (fun v41 M41 hr41 => ?_)
      obtain ⟨rfl, hm41⟩ := hr41
      rw [hm41]
      dsimp only [Option.toList, List.cons_append, List.nil_append]
      refine R_aload_n (q := 45) rfl rfl rfl ?_
      refine R_getf (q := 48) rfl rfl rfl (by first | exact hy1 | (rw [mm_pn (by omega)]; exact hy1)) rfl ?_
      refine R_callv0 (q := 51) rfl rfl rfl rfl (by first | exact ht2.1.1 | exact ht.1.1) (Nat.le_of_ble_eq_true rfl) rfl ?_
      refine R_mono (c92 (by first | exact ht2.1 | exact ht.1)) (fun v48 M48 hr48 => ?_)
      obtain ⟨rfl, hm48⟩ := hr48
      rw [hm48]
      dsimp only [Option.toList, List.cons_append, List.nil_append]
      refine R_iload_n (q := 52) rfl rfl rfl ?_
      refine R_ireturn rfl rfl ?_
      first
        | exact ⟨FR_t hfr (FR_p (by decide)), Or.inr ⟨hP, _, _, hRD, rfl, Or.inl ⟨h28, CI_53 hci⟩⟩⟩
        | exact ⟨FR_t hfr (FR_t (FR_p (by omega)) (FR_p (by decide))), Or.inr ⟨hP, _, _, hRD, rfl, Or.inr ⟨h28, CI_53 hci2⟩⟩⟩
  · refine R_sipush (q := 10) (v := (-1000)) rfl rfl (by decide) ?_
    refine R_ireturn rfl rfl ?_
    exact ⟨FR_r, Or.inl ⟨of_decide_eq_false (zb_eq0.mp h4), rfl, h⟩⟩
end P40
