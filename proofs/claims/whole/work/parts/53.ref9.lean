/-! ===== the reference's own calls, IX: the turns, count, put ===== -/
set_option maxRecDepth 8000 in
theorem m1m (u : Int32) : (-1 : Int32) * u = -u := by rw [Int32.neg_mul, Int32.one_mul]
theorem mT {t : Nat} (ht : t < 8) (u v : Int32) : trn (4 * t) * u + trn (4 * t + 1) * v = tX t u v ∧ trn (4 * t + 2) * u + trn (4 * t + 3) * v = tY t u v := by
  have hcs : t = 0 ∨ t = 1 ∨ t = 2 ∨ t = 3 ∨ t = 4 ∨ t = 5 ∨ t = 6 ∨ t = 7 := by omega
  rcases hcs with rfl | rfl | rfl | rfl | rfl | rfl | rfl | rfl
  · show (1 : Int32) * u + (0) * v = u ∧ (0 : Int32) * u + (1) * v = v
    simp only [m1m, Int32.one_mul, Int32.zero_mul, Int32.add_zero, Int32.zero_add, and_self]
  · show (0 : Int32) * u + (-1) * v = -v ∧ (1 : Int32) * u + (0) * v = u
    simp only [m1m, Int32.one_mul, Int32.zero_mul, Int32.add_zero, Int32.zero_add, and_self]
  · show (-1 : Int32) * u + (0) * v = -u ∧ (0 : Int32) * u + (-1) * v = -v
    simp only [m1m, Int32.one_mul, Int32.zero_mul, Int32.add_zero, Int32.zero_add, and_self]
  · show (0 : Int32) * u + (1) * v = v ∧ (-1 : Int32) * u + (0) * v = -u
    simp only [m1m, Int32.one_mul, Int32.zero_mul, Int32.add_zero, Int32.zero_add, and_self]
  · show (-1 : Int32) * u + (0) * v = -u ∧ (0 : Int32) * u + (1) * v = v
    simp only [m1m, Int32.one_mul, Int32.zero_mul, Int32.add_zero, Int32.zero_add, and_self]
  · show (0 : Int32) * u + (-1) * v = -v ∧ (-1 : Int32) * u + (0) * v = -u
    simp only [m1m, Int32.one_mul, Int32.zero_mul, Int32.add_zero, Int32.zero_add, and_self]
  · show (1 : Int32) * u + (0) * v = u ∧ (0 : Int32) * u + (-1) * v = -v
    simp only [m1m, Int32.one_mul, Int32.zero_mul, Int32.add_zero, Int32.zero_add, and_self]
  · show (0 : Int32) * u + (1) * v = v ∧ (1 : Int32) * u + (0) * v = u
    simp only [m1m, Int32.one_mul, Int32.zero_mul, Int32.add_zero, Int32.zero_add, and_self]
theorem tX_add {t : Nat} (ht : t < 8) (u v u' v' : Int32) : tX t (u + u') (v + v') = tX t u v + tX t u' v' ∧ tY t (u + u') (v + v') = tY t u v + tY t u' v' := by
  have hcs : t = 0 ∨ t = 1 ∨ t = 2 ∨ t = 3 ∨ t = 4 ∨ t = 5 ∨ t = 6 ∨ t = 7 := by omega
  rcases hcs with rfl | rfl | rfl | rfl | rfl | rfl | rfl | rfl
  · show (u + u') = u + u' ∧ (v + v') = v + v'
    exact ⟨by grind, by grind⟩
  · show -(v + v') = -v + -v' ∧ (u + u') = u + u'
    exact ⟨by grind, by grind⟩
  · show -(u + u') = -u + -u' ∧ -(v + v') = -v + -v'
    exact ⟨by grind, by grind⟩
  · show (v + v') = v + v' ∧ -(u + u') = -u + -u'
    exact ⟨by grind, by grind⟩
  · show -(u + u') = -u + -u' ∧ (v + v') = v + v'
    exact ⟨by grind, by grind⟩
  · show -(v + v') = -v + -v' ∧ -(u + u') = -u + -u'
    exact ⟨by grind, by grind⟩
  · show (u + u') = u + u' ∧ -(v + v') = -v + -v'
    exact ⟨by grind, by grind⟩
  · show (v + v') = v + v' ∧ (u + u') = u + u'
    exact ⟨by grind, by grind⟩
theorem tX_c {t : Nat} (ht : t < 8) (u v : Int32) : (tX t u v = u ∨ tX t u v = -u ∨ tX t u v = v ∨ tX t u v = -v) ∧ (tY t u v = u ∨ tY t u v = -u ∨ tY t u v = v ∨ tY t u v = -v) := by
  have hcs : t = 0 ∨ t = 1 ∨ t = 2 ∨ t = 3 ∨ t = 4 ∨ t = 5 ∨ t = 6 ∨ t = 7 := by omega
  rcases hcs with rfl | rfl | rfl | rfl | rfl | rfl | rfl | rfl
  · exact ⟨Or.inl rfl, Or.inr (Or.inr (Or.inl rfl))⟩
  · exact ⟨Or.inr (Or.inr (Or.inr rfl)), Or.inl rfl⟩
  · exact ⟨Or.inr (Or.inl rfl), Or.inr (Or.inr (Or.inr rfl))⟩
  · exact ⟨Or.inr (Or.inr (Or.inl rfl)), Or.inr (Or.inl rfl)⟩
  · exact ⟨Or.inr (Or.inl rfl), Or.inr (Or.inr (Or.inl rfl))⟩
  · exact ⟨Or.inr (Or.inr (Or.inr rfl)), Or.inr (Or.inl rfl)⟩
  · exact ⟨Or.inl rfl, Or.inr (Or.inr (Or.inr rfl))⟩
  · exact ⟨Or.inr (Or.inr (Or.inl rfl)), Or.inl rfl⟩
theorem tA_mat : ∀ t, t < 8 → ∀ s, s < 8 → (trn (4 * t) * trn (4 * s) + trn (4 * t + 1) * trn (4 * s + 2) = trn (4 * tA s t) ∧ trn (4 * t) * trn (4 * s + 1) + trn (4 * t + 1) * trn (4 * s + 3) = trn (4 * tA s t + 1)) ∧ (trn (4 * t + 2) * trn (4 * s) + trn (4 * t + 3) * trn (4 * s + 2) = trn (4 * tA s t + 2) ∧ trn (4 * t + 2) * trn (4 * s + 1) + trn (4 * t + 3) * trn (4 * s + 3) = trn (4 * tA s t + 3)) ∧ tA s t < 8 := by decide +kernel
theorem bnd_c {x u v : Int32} {b : Int} (hb' : 0 ≤ b ∧ b ≤ 1000) (hu : -b ≤ u.toInt ∧ u.toInt ≤ b) (hv : -b ≤ v.toInt ∧ v.toInt ≤ b) (h : x = u ∨ x = -u ∨ x = v ∨ x = -v) : -b ≤ x.toInt ∧ x.toInt ≤ b := by
  rcases h with h | h | h | h
  · rw [h]; exact hu
  · rw [h, i_neg (by omega)]; omega
  · rw [h]; exact hv
  · rw [h, i_neg (by omega)]; omega
theorem del_c {x u v : Int32} (hu : 1 ≤ u.toInt ∧ u.toInt ≤ 16) (hv : 1 ≤ v.toInt ∧ v.toInt ≤ 16) (h : x = u ∨ x = -u ∨ x = v ∨ x = -v) : (1 ≤ x.toInt ∧ x.toInt ≤ 16) ∨ (-16 ≤ x.toInt ∧ x.toInt ≤ -1) := by
  rcases h with h | h | h | h
  · rw [h]; omega
  · rw [h, i_neg (by omega)]; omega
  · rw [h]; omega
  · rw [h, i_neg (by omega)]; omega
theorem side_eq {x0 x1 x2 D : Int32} (h0 : -1000 ≤ x0.toInt ∧ x0.toInt ≤ 1000) (hD : (1 ≤ D.toInt ∧ D.toInt ≤ 16) ∨ (-16 ≤ D.toInt ∧ D.toInt ≤ -1)) (h1 : x1 = x0 + D) (h2 : x2 = x0 + D) : (if x0 < x1 then x0 else x1) = (if x2 < x0 then x2 else x0) ∧ (if x0 < x1 then x1 - x0 else x0 - x1) = (if 0 ≤ x2 - x0 then x2 - x0 else 0 - (x2 - x0)) := by
  subst h1 h2
  have e1 : (x0 + D).toInt = x0.toInt + D.toInt := i_add (by omega)
  have e2 : (x0 + D - x0).toInt = D.toInt := by rw [i_sub (by omega), e1]; omega
  have e3 : (x0 - (x0 + D)).toInt = -D.toInt := by rw [i_sub (by omega), e1]; omega
  have e4 : (0 - (x0 + D - x0)).toInt = -D.toInt := by rw [i_sub (by rw [i_0]; omega), e2, i_0]; omega
  rcases hD with hD | hD
  · rw [if_pos (by rw [i_lt]; omega), if_neg (by rw [i_lt]; omega), if_pos (by rw [i_lt]; omega), if_pos (by rw [i_le, i_0]; omega)]
    exact ⟨rfl, rfl⟩
  · rw [if_neg (by rw [i_lt]; omega), if_pos (by rw [i_lt]; omega), if_neg (by rw [i_lt]; omega), if_neg (by rw [i_le, i_0]; omega)]
    exact ⟨rfl, by rw [i_eq, e3, e4]⟩
/-- a box laid, as the reference lays it -/
theorem rct_eq {p : Nat → Int32} {i t : Nat} {x y x0 y0 x1 y1 : Int32} (ht : t < 8) (hb' : bxok p i) (hx : -500 ≤ x.toInt ∧ x.toInt ≤ 500) (hy : -500 ≤ y.toInt ∧ y.toInt ≤ 500) (h1 : x0 = trn (4 * t) * p (i * 4 + 0) + trn (4 * t + 1) * p (i * 4 + 1) + x) (h2 : y0 = trn (4 * t + 2) * p (i * 4 + 0) + trn (4 * t + 3) * p (i * 4 + 1) + y) (h3 : x1 = x0 + trn (4 * t) * p (i * 4 + 2) + trn (4 * t + 1) * p (i * 4 + 3)) (h4 : y1 = y0 + trn (4 * t + 2) * p (i * 4 + 2) + trn (4 * t + 3) * p (i * 4 + 3)) : ((if x0 < x1 then x0 else x1, if y0 < y1 then y0 else y1, if x0 < x1 then x1 - x0 else x0 - x1, if y0 < y1 then y1 - y0 else y0 - y1) : R4) = rct p i t x y := by
  have m1 := mT ht (p (i * 4 + 0)) (p (i * 4 + 1))
  have m2 := mT ht (p (i * 4 + 2)) (p (i * 4 + 3))
  have a1 := tX_add ht (p (i * 4 + 0)) (p (i * 4 + 1)) (p (i * 4 + 2)) (p (i * 4 + 3))
  obtain ⟨⟨b0, b1⟩, b2, b3⟩ := hb'
  unfold sm at b0 b1
  have c1 := tX_c ht (p (i * 4 + 0)) (p (i * 4 + 1))
  have c2 := tX_c ht (p (i * 4 + 2)) (p (i * 4 + 3))
  have n1 := bnd_c (b := 16) (by omega) b0 b1 c1.1
  have n2 := bnd_c (b := 16) (by omega) b0 b1 c1.2
  have d1 := del_c b2 b3 c2.1
  have d2 := del_c b2 b3 c2.2
  rw [m1.1] at h1
  rw [m1.2] at h2
  rw [Int32.add_assoc, m2.1] at h3
  rw [Int32.add_assoc, m2.2] at h4
  have e1 : x + tX t (p (i * 4 + 0)) (p (i * 4 + 1)) = x0 := by rw [h1, Int32.add_comm]
  have e2 : y + tY t (p (i * 4 + 0)) (p (i * 4 + 1)) = y0 := by rw [h2, Int32.add_comm]
  have e3 : x + tX t (p (i * 4 + 0) + p (i * 4 + 2)) (p (i * 4 + 1) + p (i * 4 + 3)) = x0 + tX t (p (i * 4 + 2)) (p (i * 4 + 3)) := by rw [a1.1, ← Int32.add_assoc, e1]
  have e4 : y + tY t (p (i * 4 + 0) + p (i * 4 + 2)) (p (i * 4 + 1) + p (i * 4 + 3)) = y0 + tY t (p (i * 4 + 2)) (p (i * 4 + 3)) := by rw [a1.2, ← Int32.add_assoc, e2]
  have r1 : -1000 ≤ x0.toInt ∧ x0.toInt ≤ 1000 := by rw [h1, i_add (by omega)]; omega
  have r2 : -1000 ≤ y0.toInt ∧ y0.toInt ≤ 1000 := by rw [h2, i_add (by omega)]; omega
  have s1 := side_eq r1 d1 h3 rfl
  have s2 := side_eq r2 d2 h4 rfl
  unfold rct
  rw [e1, e2, e3, e4, s1.1, s1.2, s2.1, s2.2]
section P53
variable {S : mm_S} {d : Nat} {M : mm_M} {A : AS} {I : Nat → Int32} {sh : Nat → Nat → Int32} {o : OS} {l : LYS} {pi fa tp : IS}
def up7 (f : Nat → Int32) (k : Nat) (c a b p q x y : Int32) : Nat → Int32 := upd (upd (upd (upd (upd (upd (upd f k c) (k + 1) a) (k + 2) b) (k + 3) p) (k + 4) q) (k + 5) x) (k + 6) y
theorem up7_o {f : Nat → Int32} {k j : Nat} {c a b p q x y : Int32} (h : j < k ∨ k + 6 < j) : up7 f k c a b p q x y j = f j := by
  unfold up7
  rw [upd_n (by omega), upd_n (by omega), upd_n (by omega), upd_n (by omega), upd_n (by omega), upd_n (by omega), upd_n (by omega)]
theorem up7_i {f : Nat → Int32} {k : Nat} {c a b p q x y : Int32} : (up7 f k c a b p q x y k = c ∧ up7 f k c a b p q x y (k + 1) = a ∧ up7 f k c a b p q x y (k + 2) = b ∧ up7 f k c a b p q x y (k + 3) = p) ∧ up7 f k c a b p q x y (k + 4) = q ∧ up7 f k c a b p q x y (k + 5) = x ∧ up7 f k c a b p q x y (k + 6) = y := by
  unfold up7
  refine ⟨⟨?_, ?_, ?_, ?_⟩, ?_, ?_, ?_⟩
  · rw [upd_n (by omega), upd_n (by omega), upd_n (by omega), upd_n (by omega), upd_n (by omega), upd_n (by omega), upd_e]
  · rw [upd_n (by omega), upd_n (by omega), upd_n (by omega), upd_n (by omega), upd_n (by omega), upd_e]
  · rw [upd_n (by omega), upd_n (by omega), upd_n (by omega), upd_n (by omega), upd_e]
  · rw [upd_n (by omega), upd_n (by omega), upd_n (by omega), upd_e]
  · rw [upd_n (by omega), upd_n (by omega), upd_e]
  · rw [upd_n (by omega), upd_e]
  · rw [upd_e]
set_option maxRecDepth 8000 in
theorem m166 {n : Nat} {c a b p q x y : Int32} (hn : n < 342) : mm_R S (d + 0) 166 0 (mm_en 166 [.ref 73, .int (nI n), .int c, .int a, .int b, .int p, .int q, .int x, .int y]) [] (mdm M A I) (fun v M' => v = some (.int (nI (n + 1))) ∧ M' = mdm M (upa A 93 (up7 (A 93) (7 * n) c a b p q x y)) I) := by
  show mm_R S (d + 0) 166 0 [some (.ref 73), some (.int (nI n)), some (.int c), some (.int a), some (.int b), some (.int p), some (.int q), some (.int x), some (.int y)] [] (mdm M A I) _
  refine R_aload_n (q := 1) rfl rfl rfl ?_
  refine R_getf (q := 4) rfl rfl rfl md_73 rfl ?_
  refine R_bipush (q := 6) (v := nI 7) rfl rfl (by decide) ?_
  refine R_iload_n (q := 7) rfl rfl rfl ?_
  refine R_imul (q := 8) rfl rfl ?_
  rw [pk_mul]
  refine R_iload_n (q := 9) rfl rfl rfl ?_
  refine R_iastore (q := 10) rfl rfl md_93 (by first | assumption | exact in_nI (by omega) (by decide)) ?_
  rw [cl_nI (by omega)]
  rw [md_p93]
  refine R_aload_n (q := 11) rfl rfl rfl ?_
  refine R_getf (q := 14) rfl rfl rfl md_73 rfl ?_
  refine R_bipush (q := 16) (v := nI 7) rfl rfl (by decide) ?_
  refine R_iload_n (q := 17) rfl rfl rfl ?_
  refine R_imul (q := 18) rfl rfl ?_
  rw [pk_mul]
  refine R_iconst (q := 19) (v := nI 1) rfl rfl (by decide) ?_
  refine R_iadd (q := 20) rfl rfl ?_
  rw [nI_add]
  refine R_iload_n (q := 21) rfl rfl rfl ?_
  refine R_iastore (q := 22) rfl rfl md_93 (by first | assumption | exact in_nI (by omega) (by decide)) ?_
  rw [cl_nI (by omega)]
  rw [md_p93]
  rw [upa_u, upa_e]
  refine R_aload_n (q := 23) rfl rfl rfl ?_
  refine R_getf (q := 26) rfl rfl rfl md_73 rfl ?_
  refine R_bipush (q := 28) (v := nI 7) rfl rfl (by decide) ?_
  refine R_iload_n (q := 29) rfl rfl rfl ?_
  refine R_imul (q := 30) rfl rfl ?_
  rw [pk_mul]
  refine R_iconst (q := 31) (v := nI 2) rfl rfl (by decide) ?_
  refine R_iadd (q := 32) rfl rfl ?_
  rw [nI_add]
  refine R_iload (q := 34) rfl rfl rfl ?_
  refine R_iastore (q := 35) rfl rfl md_93 (by first | assumption | exact in_nI (by omega) (by decide)) ?_
  rw [cl_nI (by omega)]
  rw [md_p93]
  rw [upa_u, upa_e]
  refine R_aload_n (q := 36) rfl rfl rfl ?_
  refine R_getf (q := 39) rfl rfl rfl md_73 rfl ?_
  refine R_bipush (q := 41) (v := nI 7) rfl rfl (by decide) ?_
  refine R_iload_n (q := 42) rfl rfl rfl ?_
  refine R_imul (q := 43) rfl rfl ?_
  rw [pk_mul]
  refine R_iconst (q := 44) (v := nI 3) rfl rfl (by decide) ?_
  refine R_iadd (q := 45) rfl rfl ?_
  rw [nI_add]
  refine R_iload (q := 47) rfl rfl rfl ?_
  refine R_iastore (q := 48) rfl rfl md_93 (by first | assumption | exact in_nI (by omega) (by decide)) ?_
  rw [cl_nI (by omega)]
  rw [md_p93]
  rw [upa_u, upa_e]
  refine R_aload_n (q := 49) rfl rfl rfl ?_
  refine R_getf (q := 52) rfl rfl rfl md_73 rfl ?_
  refine R_bipush (q := 54) (v := nI 7) rfl rfl (by decide) ?_
  refine R_iload_n (q := 55) rfl rfl rfl ?_
  refine R_imul (q := 56) rfl rfl ?_
  rw [pk_mul]
  refine R_iconst (q := 57) (v := nI 4) rfl rfl (by decide) ?_
  refine R_iadd (q := 58) rfl rfl ?_
  rw [nI_add]
  refine R_iload (q := 60) rfl rfl rfl ?_
  refine R_iastore (q := 61) rfl rfl md_93 (by first | assumption | exact in_nI (by omega) (by decide)) ?_
  rw [cl_nI (by omega)]
  rw [md_p93]
  rw [upa_u, upa_e]
  refine R_aload_n (q := 62) rfl rfl rfl ?_
  refine R_getf (q := 65) rfl rfl rfl md_73 rfl ?_
  refine R_bipush (q := 67) (v := nI 7) rfl rfl (by decide) ?_
  refine R_iload_n (q := 68) rfl rfl rfl ?_
  refine R_imul (q := 69) rfl rfl ?_
  rw [pk_mul]
  refine R_iconst (q := 70) (v := nI 5) rfl rfl (by decide) ?_
  refine R_iadd (q := 71) rfl rfl ?_
  rw [nI_add]
  refine R_iload (q := 73) rfl rfl rfl ?_
  refine R_iastore (q := 74) rfl rfl md_93 (by first | assumption | exact in_nI (by omega) (by decide)) ?_
  rw [cl_nI (by omega)]
  rw [md_p93]
  rw [upa_u, upa_e]
  refine R_aload_n (q := 75) rfl rfl rfl ?_
  refine R_getf (q := 78) rfl rfl rfl md_73 rfl ?_
  refine R_bipush (q := 80) (v := nI 7) rfl rfl (by decide) ?_
  refine R_iload_n (q := 81) rfl rfl rfl ?_
  refine R_imul (q := 82) rfl rfl ?_
  rw [pk_mul]
  refine R_bipush (q := 84) (v := nI 6) rfl rfl (by decide) ?_
  refine R_iadd (q := 85) rfl rfl ?_
  rw [nI_add]
  refine R_iload (q := 87) rfl rfl rfl ?_
  refine R_iastore (q := 88) rfl rfl md_93 (by first | assumption | exact in_nI (by omega) (by decide)) ?_
  rw [cl_nI (by omega)]
  rw [md_p93]
  rw [upa_u, upa_e]
  refine R_iload_n (q := 89) rfl rfl rfl ?_
  refine R_iconst (q := 90) (v := nI 1) rfl rfl (by decide) ?_
  refine R_iadd (q := 91) rfl rfl ?_
  rw [nI_add]
  refine R_ireturn rfl rfl ?_
  exact ⟨rfl, rfl⟩
set_option maxRecDepth 8000 in
theorem m165 (hV : VS sh o l pi fa tp) (h : BRl A l) : mm_R S (d + 0) 165 0 (mm_en 165 [.ref 73]) [] (mdm M A I) (fun v M' => v = none ∧ M' = mdm M (upa A 92 (ifl (fun i => nI (totL l.1 l.2.1 l.2.2.2.1 6 i)) (A 92) 6)) I) := by
  show mm_R S (d + 0) 165 0 [some (.ref 73), none, none, none] [] (mdm M A I) _
  have hB := hV.2.2.1.1
  have hL := hV.2.2.1.2.1
  have hlp : ∀ (j c : Nat) (t2 t3 : Option Value), c + j = 6 → mm_R S d 165 2 [some (.ref 73), some (.int (nI c)), t2, t3] [] (mdm M (upa A 92 (ifl (fun i => nI (totL l.1 l.2.1 l.2.2.2.1 c i)) (A 92) c)) I) (fun v M' => v = none ∧ M' = mdm M (upa A 92 (ifl (fun i => nI (totL l.1 l.2.1 l.2.2.2.1 6 i)) (A 92) 6)) I) := by
    intro j
    induction j with
    | zero =>
      intro c t2 t3 hc
      have hc6 : c = 6 := by omega
      subst hc6
      refine R_iload_n (q := 3) rfl rfl rfl ?_
      refine R_bipush (q := 5) (v := nI 6) rfl rfl (by decide) ?_
      refine R_icmp_ge (q := 8) (t := 93) rfl rfl rfl (fun h5 => ?_) (fun h5 => absurd (nI_le (by omega) (by omega)) h5)
      refine R_return rfl rfl ?_
      exact ⟨rfl, rfl⟩
    | succ j ih =>
      intro c t2 t3 hc
      have hc6 : c < 6 := by omega
      have r3 := h c hc6
      have hb6 := hB c hc6
      have hpl := (hL c hc6).2
      have hts := tsum_le (T := totL l.1 l.2.1 l.2.2.2.1 c) hpl (totL_le c)
      have h86 : ∀ (m : Nat) (t3 : Option Value) (v : Int32), v = nI (min (l.1 c + tsum (l.2.2.2.1 c) (totL l.1 l.2.1 l.2.2.2.1 c) (l.2.1 c)) 201) → mm_R S d 165 86 [some (.ref 73), some (.int (nI c)), some (.int (nI m)), t3] [.int v, .int (nI c), .ref 92] (mdm M (upa A 92 (ifl (fun i => nI (totL l.1 l.2.1 l.2.2.2.1 c i)) (A 92) c)) I) (fun v M' => v = none ∧ M' = mdm M (upa A 92 (ifl (fun i => nI (totL l.1 l.2.1 l.2.2.2.1 6 i)) (A 92) 6)) I) := by
        intro m t3 v hv
        refine R_iastore (q := 87) rfl rfl md_92 (by first | assumption | exact in_nI (by omega) (by decide)) ?_
        rw [cl_nI (by omega)]
        rw [md_p92]
        rw [upa_u, upa_e, hv, TT_s]
        refine R_iinc (q := 90) rfl rfl rfl (nI_i1 c) rfl ?_
        dsimp only [List.set]
        refine R_goto (t := 2) rfl rfl ?_
        exact ih (c + 1) _ _ (by omega)
      have hin : ∀ (jj k : Nat), k + jj = l.2.1 c → mm_R S d 165 19 [some (.ref 73), some (.int (nI c)), some (.int (nI (l.1 c + tsum (l.2.2.2.1 c) (totL l.1 l.2.1 l.2.2.2.1 c) k))), some (.int (nI (4 * c + k)))] [] (mdm M (upa A 92 (ifl (fun i => nI (totL l.1 l.2.1 l.2.2.2.1 c i)) (A 92) c)) I) (fun v M' => v = none ∧ M' = mdm M (upa A 92 (ifl (fun i => nI (totL l.1 l.2.1 l.2.2.2.1 6 i)) (A 92) 6)) I) := by
        intro jj
        induction jj with
        | zero =>
          intro k hk
          have hk0 : k = l.2.1 c := by omega
          subst hk0
          have ht := hts (l.2.1 c) (Nat.le_refl _)
          have e83 : upa A 92 (ifl (fun i => nI (totL l.1 l.2.1 l.2.2.2.1 c i)) (A 92) c) 83 c = nI (l.2.1 c) := r3.1.2
          refine R_iload_n (q := 20) rfl rfl rfl ?_
          refine R_iconst (q := 21) (v := nI 4) rfl rfl (by decide) ?_
          refine R_iload_n (q := 22) rfl rfl rfl ?_
          refine R_imul (q := 23) rfl rfl ?_
          rw [pk_mul]
          refine R_aload_n (q := 24) rfl rfl rfl ?_
          refine R_getf (q := 27) rfl rfl rfl md_73 rfl ?_
          refine R_iload_n (q := 28) rfl rfl rfl ?_
          refine R_iaload (q := 29) rfl rfl md_83 (by decide) (by first | assumption | exact in_nI (by omega) (by decide)) ?_
          rw [cl_nI (by omega)]
          rw [e83]
          refine R_iadd (q := 30) rfl rfl ?_
          rw [nI_add]
          refine R_icmp_ge (q := 33) (t := 67) rfl rfl rfl (fun h30 => ?_) (fun h30 => absurd (nI_le (by omega) (by omega)) h30)
          refine R_aload_n (q := 68) rfl rfl rfl ?_
          refine R_getf (q := 71) rfl rfl rfl md_73 rfl ?_
          refine R_iload_n (q := 72) rfl rfl rfl ?_
          refine R_iload_n (q := 73) rfl rfl rfl ?_
          refine R_sipush (q := 76) (v := nI 200) rfl rfl (by decide) ?_
          refine R_icmp_le (q := 79) (t := 85) rfl rfl rfl (fun h76 => ?_) (fun h76 => ?_)
          · refine R_iload_n (q := 86) rfl rfl rfl ?_
            refine h86 _ _ _ ?_
            first
              | (have z : l.1 c + tsum (l.2.2.2.1 c) (totL l.1 l.2.1 l.2.2.2.1 c) (l.2.1 c) ≤ 200 := by
                   rw [i_le, i_n _ (by omega), ik_200] at h76
                   omega
                 rw [Nat.min_eq_left (by omega)])
              | (have z : ¬ l.1 c + tsum (l.2.2.2.1 c) (totL l.1 l.2.1 l.2.2.2.1 c) (l.2.1 c) ≤ 200 := by
                   rw [i_le, i_n _ (by omega), ik_200] at h76
                   omega
                 rw [Nat.min_eq_right (by omega)])
          · refine R_sipush (q := 82) (v := nI 201) rfl rfl (by decide) ?_
            refine R_goto (t := 86) rfl rfl ?_
            refine h86 _ _ _ ?_
            first
              | (have z : l.1 c + tsum (l.2.2.2.1 c) (totL l.1 l.2.1 l.2.2.2.1 c) (l.2.1 c) ≤ 200 := by
                   rw [i_le, i_n _ (by omega), ik_200] at h76
                   omega
                 rw [Nat.min_eq_left (by omega)])
              | (have z : ¬ l.1 c + tsum (l.2.2.2.1 c) (totL l.1 l.2.1 l.2.2.2.1 c) (l.2.1 c) ≤ 200 := by
                   rw [i_le, i_n _ (by omega), ik_200] at h76
                   omega
                 rw [Nat.min_eq_right (by omega)])
        | succ jj ih2 =>
          intro k hk
          have ht := hts k (by omega)
          obtain ⟨⟨e84, -⟩, -, -, e90, e91⟩ := r3.2.2 k (by omega)
          obtain ⟨⟨p0, p0'⟩, -, -, -, ⟨p6, p6', p6''⟩, ⟨p7, p7', p7''⟩⟩ := hpl k (by omega)
          have hT := totL_le (nb := l.1) (np := l.2.1) (pl := l.2.2.2.1) c (pq (l.2.2.2.1 c) k 0)
          have e83 : upa A 92 (ifl (fun i => nI (totL l.1 l.2.1 l.2.2.2.1 c i)) (A 92) c) 83 c = nI (l.2.1 c) := r3.1.2
          have e84' : upa A 92 (ifl (fun i => nI (totL l.1 l.2.1 l.2.2.2.1 c i)) (A 92) c) 84 (4 * c + k) = nI (pq (l.2.2.2.1 c) k 0) := e84.trans p0
          have e90' : upa A 92 (ifl (fun i => nI (totL l.1 l.2.1 l.2.2.2.1 c i)) (A 92) c) 90 (4 * c + k) = nI (pq (l.2.2.2.1 c) k 6) := e90.trans p6
          have e91' : upa A 92 (ifl (fun i => nI (totL l.1 l.2.1 l.2.2.2.1 c i)) (A 92) c) 91 (4 * c + k) = nI (pq (l.2.2.2.1 c) k 7) := e91.trans p7
          refine R_iload_n (q := 20) rfl rfl rfl ?_
          refine R_iconst (q := 21) (v := nI 4) rfl rfl (by decide) ?_
          refine R_iload_n (q := 22) rfl rfl rfl ?_
          refine R_imul (q := 23) rfl rfl ?_
          rw [pk_mul]
          refine R_aload_n (q := 24) rfl rfl rfl ?_
          refine R_getf (q := 27) rfl rfl rfl md_73 rfl ?_
          refine R_iload_n (q := 28) rfl rfl rfl ?_
          refine R_iaload (q := 29) rfl rfl md_83 (by decide) (by first | assumption | exact in_nI (by omega) (by decide)) ?_
          rw [cl_nI (by omega)]
          rw [e83]
          refine R_iadd (q := 30) rfl rfl ?_
          rw [nI_add]
          refine R_icmp_ge (q := 33) (t := 67) rfl rfl rfl (fun h30 => absurd h30 (nI_ge (by omega) (by omega))) (fun h30 => ?_)
          refine R_iload_n (q := 34) rfl rfl rfl ?_
          refine R_aload_n (q := 35) rfl rfl rfl ?_
          refine R_getf (q := 38) rfl rfl rfl md_73 rfl ?_
          refine R_iload_n (q := 39) rfl rfl rfl ?_
          refine R_iaload (q := 40) rfl rfl md_90 (by decide) (by first | assumption | exact in_nI (by omega) (by decide)) ?_
          rw [cl_nI (by omega)]
          rw [e90']
          refine R_aload_n (q := 41) rfl rfl rfl ?_
          refine R_getf (q := 44) rfl rfl rfl md_73 rfl ?_
          refine R_iload_n (q := 45) rfl rfl rfl ?_
          refine R_iaload (q := 46) rfl rfl md_91 (by decide) (by first | assumption | exact in_nI (by omega) (by decide)) ?_
          rw [cl_nI (by omega)]
          rw [e91']
          refine R_imul (q := 47) rfl rfl ?_
          rw [pk_mul]
          refine R_aload_n (q := 48) rfl rfl rfl ?_
          refine R_getf (q := 51) rfl rfl rfl md_73 rfl ?_
          refine R_aload_n (q := 52) rfl rfl rfl ?_
          refine R_getf (q := 55) rfl rfl rfl md_73 rfl ?_
          refine R_iload_n (q := 56) rfl rfl rfl ?_
          refine R_iaload (q := 57) rfl rfl md_84 (by decide) (by first | assumption | exact in_nI (by omega) (by decide)) ?_
          rw [cl_nI (by omega)]
          rw [e84']
          refine R_iaload (q := 58) rfl rfl md_92 (by decide) (by first | assumption | exact in_nI (by omega) (by decide)) ?_
          rw [cl_nI (by omega)]
          rw [upa_e, ifl_lt p0']
          refine R_imul (q := 59) rfl rfl ?_
          rw [pk_mul]
          refine R_iadd (q := 60) rfl rfl ?_
          rw [nI_add]
          refine R_istore_n (q := 61) rfl rfl (Nat.le_of_ble_eq_true rfl) rfl ?_
          dsimp only [List.set]
          refine R_iinc (q := 64) rfl rfl rfl (nI_i1 (4 * c + k)) rfl ?_
          dsimp only [List.set]
          refine R_goto (t := 19) rfl rfl ?_
          rw [show l.1 c + tsum (l.2.2.2.1 c) (totL l.1 l.2.1 l.2.2.2.1 c) k + pq (l.2.2.2.1 c) k 6 * pq (l.2.2.2.1 c) k 7 * totL l.1 l.2.1 l.2.2.2.1 c (pq (l.2.2.2.1 c) k 0) = l.1 c + tsum (l.2.2.2.1 c) (totL l.1 l.2.1 l.2.2.2.1 c) (k + 1) from Nat.add_assoc _ _ _]
          exact ih2 (k + 1) (by omega)
      have e78 : upa A 92 (ifl (fun i => nI (totL l.1 l.2.1 l.2.2.2.1 c i)) (A 92) c) 78 c = nI (l.1 c) := r3.1.1
      refine R_iload_n (q := 3) rfl rfl rfl ?_
      refine R_bipush (q := 5) (v := nI 6) rfl rfl (by decide) ?_
      refine R_icmp_ge (q := 8) (t := 93) rfl rfl rfl (fun h5 => absurd h5 (nI_ge (by omega) (by omega))) (fun h5 => ?_)
      refine R_aload_n (q := 9) rfl rfl rfl ?_
      refine R_getf (q := 12) rfl rfl rfl md_73 rfl ?_
      refine R_iload_n (q := 13) rfl rfl rfl ?_
      refine R_iaload (q := 14) rfl rfl md_78 (by decide) (by first | assumption | exact in_nI (by omega) (by decide)) ?_
      rw [cl_nI (by omega)]
      rw [e78]
      refine R_istore_n (q := 15) rfl rfl (Nat.le_of_ble_eq_true rfl) rfl ?_
      dsimp only [List.set]
      refine R_iconst (q := 16) (v := nI 4) rfl rfl (by decide) ?_
      refine R_iload_n (q := 17) rfl rfl rfl ?_
      refine R_imul (q := 18) rfl rfl ?_
      rw [pk_mul]
      refine R_istore_n (q := 19) rfl rfl (Nat.le_of_ble_eq_true rfl) rfl ?_
      dsimp only [List.set]
      exact hin (l.2.1 c) 0 (by omega)
  refine R_iconst (q := 1) (v := nI 0) rfl rfl (by decide) ?_
  refine R_istore_n (q := 2) rfl rfl (Nat.le_of_ble_eq_true rfl) rfl ?_
  dsimp only [List.set]
  have h0 := hlp 6 0 none none (by omega)
  rw [ifl_0, upa_s] at h0
  exact h0
end P53
