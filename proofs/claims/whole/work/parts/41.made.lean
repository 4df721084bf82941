/-! ===== what is made: rules that name the cells anew ===== -/
section P41
variable {S : mm_S} {d mi pc q : Nat} {L : mm_L} {st : List Value} {M : mm_M} {P : Option Value → mm_M → Prop}
theorem ad_e {c : mm_E} {z n w : Nat} (h : M.2 = (n, w)) : (mm_add M c z).1 n = some c := by
  have : M.2.1 = n := by rw [h]
  subst this
  exact if_pos rfl
theorem ad_n {c : mm_E} {z n w k : Nat} (h : M.2 = (n, w)) (hk : k ≠ n) : (mm_add M c z).1 k = M.1 k := by
  have : M.2.1 = n := by rw [h]
  subst this
  exact if_neg hk
theorem ad_2 {c : mm_E} {z n w : Nat} (h : M.2 = (n, w)) : (mm_add M c z).2 = (n + 1, w + z) := by
  show (M.2.1 + 1, M.2.2 + z) = _
  rw [h]
theorem R_newq {c ci z n w : Nat} (hc : mm_cd mi pc = some (.new c)) (hq : pc + 3 = q) (hf : mm_l2 mm_nT (mm_ow mi) c = some (ci, z)) (hm : M.2 = (n, w)) (k : ∀ M' : mm_M, M'.2 = (n + 1, w + mm_N ci) → M'.1 n = some (.inr (ci, mm_df ci)) → (∀ k, k ≠ n → M'.1 k = M.1 k) → mm_R S d mi q L (.ref n :: st) M' P) : mm_R S d mi pc L st M P := by
  refine R_new hc hq hf ?_
  rw [show M.2.1 = n from by rw [hm]]
  exact k _ (ad_2 hm) (ad_e hm) (fun _ h => ad_n hm h)
theorem R_newiq {m : Int32} {n w : Nat} (hc : mm_cd mi pc = some (.newarray .int)) (hq : pc + 2 = q) (hn : ¬ (m < 0 ∨ 65536 < m.toNatClampNeg)) (hm : M.2 = (n, w)) (k : ∀ M' : mm_M, M'.2 = (n + 1, w + m.toNatClampNeg) → M'.1 n = some (.inl (0, m.toNatClampNeg, .inl (fun _ => 0))) → (∀ k, k ≠ n → M'.1 k = M.1 k) → mm_R S d mi q L (.ref n :: st) M' P) : mm_R S d mi pc L (.int m :: st) M P := by
  refine R_newi hc hq hn ?_
  rw [show M.2.1 = n from by rw [hm]]
  exact k _ (ad_2 hm) (ad_e hm) (fun _ h => ad_n hm h)
theorem R_newzq {m : Int32} {n w : Nat} (hc : mm_cd mi pc = some (.newarray .boolean)) (hq : pc + 2 = q) (hn : ¬ (m < 0 ∨ 65536 < m.toNatClampNeg)) (hm : M.2 = (n, w)) (k : ∀ M' : mm_M, M'.2 = (n + 1, w + m.toNatClampNeg) → M'.1 n = some (.inl (1, m.toNatClampNeg, .inl (fun _ => 0))) → (∀ k, k ≠ n → M'.1 k = M.1 k) → mm_R S d mi q L (.ref n :: st) M' P) : mm_R S d mi pc L (.int m :: st) M P := by
  refine R_newz hc hq hn ?_
  rw [show M.2.1 = n from by rw [hm]]
  exact k _ (ad_2 hm) (ad_e hm) (fun _ h => ad_n hm h)
theorem R_anewq {c t z1 z2 : Nat} {m : Int32} {n w : Nat} (hc : mm_cd mi pc = some (.anewarray c)) (hq : pc + 3 = q) (hf : mm_l2 mm_aT (mm_ow mi) c = some (t, z1, z2)) (hn : ¬ (m < 0 ∨ 65536 < m.toNatClampNeg)) (hm : M.2 = (n, w)) (k : ∀ M' : mm_M, M'.2 = (n + 1, w + m.toNatClampNeg) → M'.1 n = some (.inl (t, m.toNatClampNeg, .inr (.inr (.inr (.inr (fun _ => none)))))) → (∀ k, k ≠ n → M'.1 k = M.1 k) → mm_R S d mi q L (.ref n :: st) M' P) : mm_R S d mi pc L (.int m :: st) M P := by
  refine R_anew hc hq hf hn ?_
  rw [show M.2.1 = n from by rw [hm]]
  exact k _ (ad_2 hm) (ad_e hm) (fun _ h => ad_n hm h)
theorem R_putq {c a ci j z : Nat} {fs fs2 : List Value} {v : Value} (hc : mm_cd mi pc = some (.putfield c)) (hq : pc + 3 = q) (hf : mm_l2 mm_fT (mm_ow mi) c = some (ci, j, z)) (ha : M.1 a = some (.inr (ci, fs))) (hj : j < fs.length) (ht : mm_fit (mm_fy ci j) v = true) (hn : (mm_T ci j).2.2.2 = true → mm_in mi = true ∧ mm_ow mi = ci) (h2 : fs.set j v = fs2) (k : ∀ M' : mm_M, M'.2 = M.2 → M'.1 a = some (.inr (ci, fs2)) → (∀ k, k ≠ a → M'.1 k = M.1 k) → mm_R S d mi q L st M' P) : mm_R S d mi pc L (v :: .ref a :: st) M P := R_putf hc hq hf ha hj ht hn h2 (k _ rfl mm_pe (fun _ h => mm_pn h))
theorem R_aastq {a n t v ci : Nat} {vs : List Value} {f : Nat → Option Nat} {i : Int32} (hc : mm_cd mi pc = some (.aastore)) (hq : pc + 1 = q) (ha : M.1 a = some (.inl (t, n, .inr (.inr (.inr (.inr f)))))) (hv : M.1 v = some (.inr (ci, vs))) (ht : mm_tc t = some ci) (hin : vp_in i n) (k : ∀ M' : mm_M, M'.2 = M.2 → M'.1 a = some (.inl (t, n, .inr (.inr (.inr (.inr (va_up f i.toNatClampNeg (some v))))))) → (∀ k, k ≠ a → M'.1 k = M.1 k) → mm_R S d mi q L st M' P) : mm_R S d mi pc L (.ref v :: .int i :: .ref a :: st) M P := R_aastore hc hq ha hv ht hin (k _ rfl mm_pe (fun _ h => mm_pn h))
theorem R_iastq {a n : Nat} {f : Nat → Int32} {i x : Int32} (hc : mm_cd mi pc = some (.iastore)) (hq : pc + 1 = q) (ha : M.1 a = some (.inl (0, n, .inl f))) (hin : vp_in i n) (k : ∀ M' : mm_M, M'.2 = M.2 → M'.1 a = some (.inl (0, n, .inl (upd f i.toNatClampNeg x))) → (∀ k, k ≠ a → M'.1 k = M.1 k) → mm_R S d mi q L st M' P) : mm_R S d mi pc L (.int x :: .int i :: .ref a :: st) M P := R_iastore hc hq ha hin (k _ rfl mm_pe (fun _ h => mm_pn h))
end P41
section P41b
variable {S : mm_S} {d : Nat} {M : mm_M} {a n w : Nat}
set_option maxRecDepth 8000 in
theorem i1 (ha : M.1 a = some (.inr (0, mm_df 0))) (hm : M.2 = (n, w)) (han : a < n) : mm_R S (d + 1) 1 0 (mm_en 1 [.ref a]) [] M (fun v M' => v = none ∧ M'.2 = (n + 1, w + 16) ∧ (∀ k, k < n → k ≠ a → M'.1 k = M.1 k) ∧ M'.1 a = some (.inr (0, [.ref n])) ∧ M'.1 n = some (.inl (0, 16, .inl (fun _ => 0)))) := by
  show mm_R S (d + 1) 1 0 [some (.ref a)] [] M _
  refine R_aload_n (q := 1) rfl rfl rfl ?_
  refine R_objinit (q := 4) rfl rfl (by decide +kernel) rfl (by omega) (Nat.le_of_ble_eq_true rfl) ?_
  refine R_aload_n (q := 5) rfl rfl rfl ?_
  refine R_bipush (q := 7) (v := nI 16) rfl rfl (by decide) ?_
  refine R_newiq (q := 9) rfl rfl (by decide) hm (fun M5 e5 c5 f5 => ?_)
  have h5 : M5.1 a = some (.inr (0, [.null])) := (f5 _ (by omega)).trans ha
  have m5 : M5.2 = (n + 1, w + 16) := e5
  have d5 : M5.1 n = some (.inl (0, 16, .inl (fun _ => 0))) := c5
  refine R_putq (q := 12) rfl rfl rfl h5 (Nat.le_of_ble_eq_true rfl) rfl (fun _ => ⟨rfl, rfl⟩) rfl (fun M6 e6 c6 f6 => ?_)
  dsimp only [List.set] at c6
  have h6 : M6.1 a = some (.inr (0, [.ref n])) := c6
  have m6 : M6.2 = (n + 1, w + 16) := e6.trans m5
  have G2 : ∀ k, k ≠ a → k < n + 1 → M6.1 k = M6.1 k := fun _ _ _ => rfl
  have G1 : ∀ k, k ≠ a → k < n + 1 → M6.1 k = M5.1 k := fun k ha1 hk => (G2 k ha1 (by omega)).trans (f6 k (by omega))
  have G0 : ∀ k, k ≠ a → k < n + 0 → M6.1 k = M.1 k := fun k ha1 hk => (G1 k ha1 (by omega)).trans (f5 k (by omega))
  refine R_return rfl rfl ?_
  exact ⟨rfl, m6, fun k hk hka => G0 k hka (by omega), h6, (G1 _ (by omega) (by omega)).trans d5⟩
set_option maxRecDepth 8000 in
theorem i18 (ha : M.1 a = some (.inr (1, mm_df 1))) (hm : M.2 = (n, w)) (han : a < n) : mm_R S (d + 1) 18 0 (mm_en 18 [.ref a]) [] M (fun v M' => v = none ∧ M'.2 = (n + 6, w + 87) ∧ (∀ k, k < n → k ≠ a → M'.1 k = M.1 k) ∧ M'.1 a = some (.inr (1, [.ref n, .ref (n + 1), .ref (n + 2), .ref (n + 3), .ref (n + 4), .ref (n + 5), .int 0, .int 0, .int 0, .int 0])) ∧ M'.1 n = some (.inl (0, 17, .inl (fun _ => 0))) ∧ M'.1 (n + 1) = some (.inl (0, 14, .inl (fun _ => 0))) ∧ M'.1 (n + 2) = some (.inl (0, 14, .inl (fun _ => 0))) ∧ M'.1 (n + 3) = some (.inl (0, 14, .inl (fun _ => 0))) ∧ M'.1 (n + 4) = some (.inl (0, 14, .inl (fun _ => 0))) ∧ M'.1 (n + 5) = some (.inl (0, 14, .inl (fun _ => 0)))) := by
  show mm_R S (d + 1) 18 0 [some (.ref a)] [] M _
  refine R_aload_n (q := 1) rfl rfl rfl ?_
  refine R_objinit (q := 4) rfl rfl (by decide +kernel) rfl (by omega) (Nat.le_of_ble_eq_true rfl) ?_
  refine R_aload_n (q := 5) rfl rfl rfl ?_
  refine R_bipush (q := 7) (v := nI 17) rfl rfl (by decide) ?_
  refine R_newiq (q := 9) rfl rfl (by decide) hm (fun M5 e5 c5 f5 => ?_)
  have h5 : M5.1 a = some (.inr (1, [.null, .null, .null, .null, .null, .null, .int 0, .int 0, .int 0, .int 0])) := (f5 _ (by omega)).trans ha
  have m5 : M5.2 = (n + 1, w + 17) := e5
  have d5 : M5.1 n = some (.inl (0, 17, .inl (fun _ => 0))) := c5
  refine R_putq (q := 12) rfl rfl rfl h5 (Nat.le_of_ble_eq_true rfl) rfl (fun _ => ⟨rfl, rfl⟩) rfl (fun M6 e6 c6 f6 => ?_)
  dsimp only [List.set] at c6
  have h6 : M6.1 a = some (.inr (1, [.ref n, .null, .null, .null, .null, .null, .int 0, .int 0, .int 0, .int 0])) := c6
  have m6 : M6.2 = (n + 1, w + 17) := e6.trans m5
  refine R_aload_n (q := 13) rfl rfl rfl ?_
  refine R_bipush (q := 15) (v := nI 14) rfl rfl (by decide) ?_
  refine R_newiq (q := 17) rfl rfl (by decide) m6 (fun M9 e9 c9 f9 => ?_)
  have h9 : M9.1 a = some (.inr (1, [.ref n, .null, .null, .null, .null, .null, .int 0, .int 0, .int 0, .int 0])) := (f9 _ (by omega)).trans h6
  have m9 : M9.2 = (n + 2, w + 31) := e9
  have d9 : M9.1 (n + 1) = some (.inl (0, 14, .inl (fun _ => 0))) := c9
  refine R_putq (q := 20) rfl rfl rfl h9 (Nat.le_of_ble_eq_true rfl) rfl (fun _ => ⟨rfl, rfl⟩) rfl (fun M10 e10 c10 f10 => ?_)
  dsimp only [List.set] at c10
  have h10 : M10.1 a = some (.inr (1, [.ref n, .ref (n + 1), .null, .null, .null, .null, .int 0, .int 0, .int 0, .int 0])) := c10
  have m10 : M10.2 = (n + 2, w + 31) := e10.trans m9
  refine R_aload_n (q := 21) rfl rfl rfl ?_
  refine R_bipush (q := 23) (v := nI 14) rfl rfl (by decide) ?_
  refine R_newiq (q := 25) rfl rfl (by decide) m10 (fun M13 e13 c13 f13 => ?_)
  have h13 : M13.1 a = some (.inr (1, [.ref n, .ref (n + 1), .null, .null, .null, .null, .int 0, .int 0, .int 0, .int 0])) := (f13 _ (by omega)).trans h10
  have m13 : M13.2 = (n + 3, w + 45) := e13
  have d13 : M13.1 (n + 2) = some (.inl (0, 14, .inl (fun _ => 0))) := c13
  refine R_putq (q := 28) rfl rfl rfl h13 (Nat.le_of_ble_eq_true rfl) rfl (fun _ => ⟨rfl, rfl⟩) rfl (fun M14 e14 c14 f14 => ?_)
  dsimp only [List.set] at c14
  have h14 : M14.1 a = some (.inr (1, [.ref n, .ref (n + 1), .ref (n + 2), .null, .null, .null, .int 0, .int 0, .int 0, .int 0])) := c14
  have m14 : M14.2 = (n + 3, w + 45) := e14.trans m13
  refine R_aload_n (q := 29) rfl rfl rfl ?_
  refine R_bipush (q := 31) (v := nI 14) rfl rfl (by decide) ?_
  refine R_newiq (q := 33) rfl rfl (by decide) m14 (fun M17 e17 c17 f17 => ?_)
  have h17 : M17.1 a = some (.inr (1, [.ref n, .ref (n + 1), .ref (n + 2), .null, .null, .null, .int 0, .int 0, .int 0, .int 0])) := (f17 _ (by omega)).trans h14
  have m17 : M17.2 = (n + 4, w + 59) := e17
  have d17 : M17.1 (n + 3) = some (.inl (0, 14, .inl (fun _ => 0))) := c17
  refine R_putq (q := 36) rfl rfl rfl h17 (Nat.le_of_ble_eq_true rfl) rfl (fun _ => ⟨rfl, rfl⟩) rfl (fun M18 e18 c18 f18 => ?_)
  dsimp only [List.set] at c18
  have h18 : M18.1 a = some (.inr (1, [.ref n, .ref (n + 1), .ref (n + 2), .ref (n + 3), .null, .null, .int 0, .int 0, .int 0, .int 0])) := c18
  have m18 : M18.2 = (n + 4, w + 59) := e18.trans m17
  refine R_aload_n (q := 37) rfl rfl rfl ?_
  refine R_bipush (q := 39) (v := nI 14) rfl rfl (by decide) ?_
  refine R_newiq (q := 41) rfl rfl (by decide) m18 (fun M21 e21 c21 f21 => ?_)
  have h21 : M21.1 a = some (.inr (1, [.ref n, .ref (n + 1), .ref (n + 2), .ref (n + 3), .null, .null, .int 0, .int 0, .int 0, .int 0])) := (f21 _ (by omega)).trans h18
  have m21 : M21.2 = (n + 5, w + 73) := e21
  have d21 : M21.1 (n + 4) = some (.inl (0, 14, .inl (fun _ => 0))) := c21
  refine R_putq (q := 44) rfl rfl rfl h21 (Nat.le_of_ble_eq_true rfl) rfl (fun _ => ⟨rfl, rfl⟩) rfl (fun M22 e22 c22 f22 => ?_)
  dsimp only [List.set] at c22
  have h22 : M22.1 a = some (.inr (1, [.ref n, .ref (n + 1), .ref (n + 2), .ref (n + 3), .ref (n + 4), .null, .int 0, .int 0, .int 0, .int 0])) := c22
  have m22 : M22.2 = (n + 5, w + 73) := e22.trans m21
  refine R_aload_n (q := 45) rfl rfl rfl ?_
  refine R_bipush (q := 47) (v := nI 14) rfl rfl (by decide) ?_
  refine R_newiq (q := 49) rfl rfl (by decide) m22 (fun M25 e25 c25 f25 => ?_)
  have h25 : M25.1 a = some (.inr (1, [.ref n, .ref (n + 1), .ref (n + 2), .ref (n + 3), .ref (n + 4), .null, .int 0, .int 0, .int 0, .int 0])) := (f25 _ (by omega)).trans h22
  have m25 : M25.2 = (n + 6, w + 87) := e25
  have d25 : M25.1 (n + 5) = some (.inl (0, 14, .inl (fun _ => 0))) := c25
  refine R_putq (q := 52) rfl rfl rfl h25 (Nat.le_of_ble_eq_true rfl) rfl (fun _ => ⟨rfl, rfl⟩) rfl (fun M26 e26 c26 f26 => ?_)
  dsimp only [List.set] at c26
  have h26 : M26.1 a = some (.inr (1, [.ref n, .ref (n + 1), .ref (n + 2), .ref (n + 3), .ref (n + 4), .ref (n + 5), .int 0, .int 0, .int 0, .int 0])) := c26
  have m26 : M26.2 = (n + 6, w + 87) := e26.trans m25
  have G12 : ∀ k, k ≠ a → k < n + 6 → M26.1 k = M26.1 k := fun _ _ _ => rfl
  have G11 : ∀ k, k ≠ a → k < n + 6 → M26.1 k = M25.1 k := fun k ha1 hk => (G12 k ha1 (by omega)).trans (f26 k (by omega))
  have G10 : ∀ k, k ≠ a → k < n + 5 → M26.1 k = M22.1 k := fun k ha1 hk => (G11 k ha1 (by omega)).trans (f25 k (by omega))
  have G9 : ∀ k, k ≠ a → k < n + 5 → M26.1 k = M21.1 k := fun k ha1 hk => (G10 k ha1 (by omega)).trans (f22 k (by omega))
  have G8 : ∀ k, k ≠ a → k < n + 4 → M26.1 k = M18.1 k := fun k ha1 hk => (G9 k ha1 (by omega)).trans (f21 k (by omega))
  have G7 : ∀ k, k ≠ a → k < n + 4 → M26.1 k = M17.1 k := fun k ha1 hk => (G8 k ha1 (by omega)).trans (f18 k (by omega))
  have G6 : ∀ k, k ≠ a → k < n + 3 → M26.1 k = M14.1 k := fun k ha1 hk => (G7 k ha1 (by omega)).trans (f17 k (by omega))
  have G5 : ∀ k, k ≠ a → k < n + 3 → M26.1 k = M13.1 k := fun k ha1 hk => (G6 k ha1 (by omega)).trans (f14 k (by omega))
  have G4 : ∀ k, k ≠ a → k < n + 2 → M26.1 k = M10.1 k := fun k ha1 hk => (G5 k ha1 (by omega)).trans (f13 k (by omega))
  have G3 : ∀ k, k ≠ a → k < n + 2 → M26.1 k = M9.1 k := fun k ha1 hk => (G4 k ha1 (by omega)).trans (f10 k (by omega))
  have G2 : ∀ k, k ≠ a → k < n + 1 → M26.1 k = M6.1 k := fun k ha1 hk => (G3 k ha1 (by omega)).trans (f9 k (by omega))
  have G1 : ∀ k, k ≠ a → k < n + 1 → M26.1 k = M5.1 k := fun k ha1 hk => (G2 k ha1 (by omega)).trans (f6 k (by omega))
  have G0 : ∀ k, k ≠ a → k < n + 0 → M26.1 k = M.1 k := fun k ha1 hk => (G1 k ha1 (by omega)).trans (f5 k (by omega))
  refine R_return rfl rfl ?_
  exact ⟨rfl, m26, fun k hk hka => G0 k hka (by omega), h26, (G1 _ (by omega) (by omega)).trans d5, (G3 _ (by omega) (by omega)).trans d9, (G5 _ (by omega) (by omega)).trans d13, (G7 _ (by omega) (by omega)).trans d17, (G9 _ (by omega) (by omega)).trans d21, (G11 _ (by omega) (by omega)).trans d25⟩
set_option maxRecDepth 8000 in
theorem i39 (ha : M.1 a = some (.inr (2, mm_df 2))) (hm : M.2 = (n, w)) (han : a < n) : mm_R S (d + 2) 39 0 (mm_en 39 [.ref a]) [] M (fun v M' => v = none ∧ M'.2 = (n + 6, w + 85) ∧ (∀ k, k < n → k ≠ a → M'.1 k = M.1 k) ∧ M'.1 a = some (.inr (2, [.ref n, .ref (n + 1), .ref (n + 2), .ref (n + 3), .ref (n + 4)])) ∧ M'.1 n = some (.inl (0, 17, .inl (fun _ => 0))) ∧ M'.1 (n + 1) = some (.inl (0, 17, .inl (fun _ => 0))) ∧ M'.1 (n + 2) = some (.inl (0, 17, .inl (fun _ => 0))) ∧ M'.1 (n + 3) = some (.inl (0, 17, .inl (fun _ => 0))) ∧ M'.1 (n + 4) = some (.inr (0, [.ref (n + 5)])) ∧ M'.1 (n + 5) = some (.inl (0, 16, .inl (fun _ => 0)))) := by
  show mm_R S (d + 2) 39 0 [some (.ref a)] [] M _
  refine R_aload_n (q := 1) rfl rfl rfl ?_
  refine R_objinit (q := 4) rfl rfl (by decide +kernel) rfl (by omega) (Nat.le_of_ble_eq_true rfl) ?_
  refine R_aload_n (q := 5) rfl rfl rfl ?_
  refine R_bipush (q := 7) (v := nI 17) rfl rfl (by decide) ?_
  refine R_newiq (q := 9) rfl rfl (by decide) hm (fun M5 e5 c5 f5 => ?_)
  have h5 : M5.1 a = some (.inr (2, [.null, .null, .null, .null, .null])) := (f5 _ (by omega)).trans ha
  have m5 : M5.2 = (n + 1, w + 17) := e5
  have d5 : M5.1 n = some (.inl (0, 17, .inl (fun _ => 0))) := c5
  refine R_putq (q := 12) rfl rfl rfl h5 (Nat.le_of_ble_eq_true rfl) rfl (fun _ => ⟨rfl, rfl⟩) rfl (fun M6 e6 c6 f6 => ?_)
  dsimp only [List.set] at c6
  have h6 : M6.1 a = some (.inr (2, [.ref n, .null, .null, .null, .null])) := c6
  have m6 : M6.2 = (n + 1, w + 17) := e6.trans m5
  refine R_aload_n (q := 13) rfl rfl rfl ?_
  refine R_bipush (q := 15) (v := nI 17) rfl rfl (by decide) ?_
  refine R_newiq (q := 17) rfl rfl (by decide) m6 (fun M9 e9 c9 f9 => ?_)
  have h9 : M9.1 a = some (.inr (2, [.ref n, .null, .null, .null, .null])) := (f9 _ (by omega)).trans h6
  have m9 : M9.2 = (n + 2, w + 34) := e9
  have d9 : M9.1 (n + 1) = some (.inl (0, 17, .inl (fun _ => 0))) := c9
  refine R_putq (q := 20) rfl rfl rfl h9 (Nat.le_of_ble_eq_true rfl) rfl (fun _ => ⟨rfl, rfl⟩) rfl (fun M10 e10 c10 f10 => ?_)
  dsimp only [List.set] at c10
  have h10 : M10.1 a = some (.inr (2, [.ref n, .ref (n + 1), .null, .null, .null])) := c10
  have m10 : M10.2 = (n + 2, w + 34) := e10.trans m9
  refine R_aload_n (q := 21) rfl rfl rfl ?_
  refine R_bipush (q := 23) (v := nI 17) rfl rfl (by decide) ?_
  refine R_newiq (q := 25) rfl rfl (by decide) m10 (fun M13 e13 c13 f13 => ?_)
  have h13 : M13.1 a = some (.inr (2, [.ref n, .ref (n + 1), .null, .null, .null])) := (f13 _ (by omega)).trans h10
  have m13 : M13.2 = (n + 3, w + 51) := e13
  have d13 : M13.1 (n + 2) = some (.inl (0, 17, .inl (fun _ => 0))) := c13
  refine R_putq (q := 28) rfl rfl rfl h13 (Nat.le_of_ble_eq_true rfl) rfl (fun _ => ⟨rfl, rfl⟩) rfl (fun M14 e14 c14 f14 => ?_)
  dsimp only [List.set] at c14
  have h14 : M14.1 a = some (.inr (2, [.ref n, .ref (n + 1), .ref (n + 2), .null, .null])) := c14
  have m14 : M14.2 = (n + 3, w + 51) := e14.trans m13
  refine R_aload_n (q := 29) rfl rfl rfl ?_
  refine R_bipush (q := 31) (v := nI 17) rfl rfl (by decide) ?_
  refine R_newiq (q := 33) rfl rfl (by decide) m14 (fun M17 e17 c17 f17 => ?_)
  have h17 : M17.1 a = some (.inr (2, [.ref n, .ref (n + 1), .ref (n + 2), .null, .null])) := (f17 _ (by omega)).trans h14
  have m17 : M17.2 = (n + 4, w + 68) := e17
  have d17 : M17.1 (n + 3) = some (.inl (0, 17, .inl (fun _ => 0))) := c17
  refine R_putq (q := 36) rfl rfl rfl h17 (Nat.le_of_ble_eq_true rfl) rfl (fun _ => ⟨rfl, rfl⟩) rfl (fun M18 e18 c18 f18 => ?_)
  dsimp only [List.set] at c18
  have h18 : M18.1 a = some (.inr (2, [.ref n, .ref (n + 1), .ref (n + 2), .ref (n + 3), .null])) := c18
  have m18 : M18.2 = (n + 4, w + 68) := e18.trans m17
  refine R_aload_n (q := 37) rfl rfl rfl ?_
  refine R_newq (q := 40) rfl rfl rfl m18 (fun M20 e20 c20 f20 => ?_)
  have h20 : M20.1 a = some (.inr (2, [.ref n, .ref (n + 1), .ref (n + 2), .ref (n + 3), .null])) := (f20 _ (by omega)).trans h18
  have m20 : M20.2 = (n + 5, w + 69) := e20
  refine R_dupa (q := 41) rfl rfl ?_
  refine R_calli0 (q := 44) rfl rfl rfl rfl (Nat.le_of_ble_eq_true rfl) ?_
  refine R_mono (i1 c20 m20 (by omega)) (fun v22 M22 hr22 => ?_)
  obtain ⟨rfl, e22, f22, g22_0, g22_1⟩ := hr22
  dsimp only [Option.toList, List.nil_append]
  have h22 : M22.1 a = some (.inr (2, [.ref n, .ref (n + 1), .ref (n + 2), .ref (n + 3), .null])) := (f22 _ (by omega) (by omega)).trans h20
  have m22 : M22.2 = (n + 6, w + 85) := e22
  refine R_putq (q := 47) rfl rfl rfl h22 (Nat.le_of_ble_eq_true rfl) rfl (fun _ => ⟨rfl, rfl⟩) rfl (fun M23 e23 c23 f23 => ?_)
  dsimp only [List.set] at c23
  have h23 : M23.1 a = some (.inr (2, [.ref n, .ref (n + 1), .ref (n + 2), .ref (n + 3), .ref (n + 4)])) := c23
  have m23 : M23.2 = (n + 6, w + 85) := e23.trans m22
  have G11 : ∀ k, k ≠ a → k < n + 6 → M23.1 k = M23.1 k := fun _ _ _ => rfl
  have G10 : ∀ k, k ≠ a → k < n + 6 → M23.1 k = M22.1 k := fun k ha1 hk => (G11 k ha1 (by omega)).trans (f23 k (by omega))
  have G9 : ∀ k, k ≠ a → k < n + 4 → M23.1 k = M20.1 k := fun k ha1 hk => (G10 k ha1 (by omega)).trans (f22 k (by omega) (by omega))
  have G8 : ∀ k, k ≠ a → k < n + 4 → M23.1 k = M18.1 k := fun k ha1 hk => (G9 k ha1 (by omega)).trans (f20 k (by omega))
  have G7 : ∀ k, k ≠ a → k < n + 4 → M23.1 k = M17.1 k := fun k ha1 hk => (G8 k ha1 (by omega)).trans (f18 k (by omega))
  have G6 : ∀ k, k ≠ a → k < n + 3 → M23.1 k = M14.1 k := fun k ha1 hk => (G7 k ha1 (by omega)).trans (f17 k (by omega))
  have G5 : ∀ k, k ≠ a → k < n + 3 → M23.1 k = M13.1 k := fun k ha1 hk => (G6 k ha1 (by omega)).trans (f14 k (by omega))
  have G4 : ∀ k, k ≠ a → k < n + 2 → M23.1 k = M10.1 k := fun k ha1 hk => (G5 k ha1 (by omega)).trans (f13 k (by omega))
  have G3 : ∀ k, k ≠ a → k < n + 2 → M23.1 k = M9.1 k := fun k ha1 hk => (G4 k ha1 (by omega)).trans (f10 k (by omega))
  have G2 : ∀ k, k ≠ a → k < n + 1 → M23.1 k = M6.1 k := fun k ha1 hk => (G3 k ha1 (by omega)).trans (f9 k (by omega))
  have G1 : ∀ k, k ≠ a → k < n + 1 → M23.1 k = M5.1 k := fun k ha1 hk => (G2 k ha1 (by omega)).trans (f6 k (by omega))
  have G0 : ∀ k, k ≠ a → k < n + 0 → M23.1 k = M.1 k := fun k ha1 hk => (G1 k ha1 (by omega)).trans (f5 k (by omega))
  refine R_return rfl rfl ?_
  exact ⟨rfl, m23, fun k hk hka => G0 k hka (by omega), h23, (G1 _ (by omega) (by omega)).trans d5, (G3 _ (by omega) (by omega)).trans d9, (G5 _ (by omega) (by omega)).trans d13, (G7 _ (by omega) (by omega)).trans d17, (G10 _ (by omega) (by omega)).trans g22_0, (G10 _ (by omega) (by omega)).trans g22_1⟩
set_option maxRecDepth 8000 in
theorem i48 (ha : M.1 a = some (.inr (3, mm_df 3))) (hm : M.2 = (n, w)) (han : a < n) : mm_R S (d + 1) 48 0 (mm_en 48 [.ref a]) [] M (fun v M' => v = none ∧ M'.2 = (n + 1, w + 256) ∧ (∀ k, k < n → k ≠ a → M'.1 k = M.1 k) ∧ M'.1 a = some (.inr (3, [.ref n, .int 0])) ∧ M'.1 n = some (.inl (0, 256, .inl (fun _ => 0)))) := by
  show mm_R S (d + 1) 48 0 [some (.ref a)] [] M _
  refine R_aload_n (q := 1) rfl rfl rfl ?_
  refine R_objinit (q := 4) rfl rfl (by decide +kernel) rfl (by omega) (Nat.le_of_ble_eq_true rfl) ?_
  refine R_aload_n (q := 5) rfl rfl rfl ?_
  refine R_sipush (q := 8) (v := nI 256) rfl rfl (by decide) ?_
  refine R_newiq (q := 10) rfl rfl (by decide) hm (fun M5 e5 c5 f5 => ?_)
  have h5 : M5.1 a = some (.inr (3, [.null, .int 0])) := (f5 _ (by omega)).trans ha
  have m5 : M5.2 = (n + 1, w + 256) := e5
  have d5 : M5.1 n = some (.inl (0, 256, .inl (fun _ => 0))) := c5
  refine R_putq (q := 13) rfl rfl rfl h5 (Nat.le_of_ble_eq_true rfl) rfl (fun _ => ⟨rfl, rfl⟩) rfl (fun M6 e6 c6 f6 => ?_)
  dsimp only [List.set] at c6
  have h6 : M6.1 a = some (.inr (3, [.ref n, .int 0])) := c6
  have m6 : M6.2 = (n + 1, w + 256) := e6.trans m5
  have G2 : ∀ k, k ≠ a → k < n + 1 → M6.1 k = M6.1 k := fun _ _ _ => rfl
  have G1 : ∀ k, k ≠ a → k < n + 1 → M6.1 k = M5.1 k := fun k ha1 hk => (G2 k ha1 (by omega)).trans (f6 k (by omega))
  have G0 : ∀ k, k ≠ a → k < n + 0 → M6.1 k = M.1 k := fun k ha1 hk => (G1 k ha1 (by omega)).trans (f5 k (by omega))
  refine R_return rfl rfl ?_
  exact ⟨rfl, m6, fun k hk hka => G0 k hka (by omega), h6, (G1 _ (by omega) (by omega)).trans d5⟩
set_option maxRecDepth 8000 in
theorem i75 (ha : M.1 a = some (.inr (6, mm_df 6))) (hm : M.2 = (n, w)) (han : a < n) : mm_R S (d + 1) 75 0 (mm_en 75 [.ref a]) [] M (fun v M' => v = none ∧ M'.2 = (n + 2, w + 56) ∧ (∀ k, k < n → k ≠ a → M'.1 k = M.1 k) ∧ M'.1 a = some (.inr (6, [.ref n, .ref (n + 1), .int 0, .int 0])) ∧ M'.1 n = some (.inl (0, 24, .inl (fun _ => 0))) ∧ M'.1 (n + 1) = some (.inl (0, 32, .inl (fun _ => 0)))) := by
  show mm_R S (d + 1) 75 0 [some (.ref a)] [] M _
  refine R_aload_n (q := 1) rfl rfl rfl ?_
  refine R_objinit (q := 4) rfl rfl (by decide +kernel) rfl (by omega) (Nat.le_of_ble_eq_true rfl) ?_
  refine R_aload_n (q := 5) rfl rfl rfl ?_
  refine R_bipush (q := 7) (v := nI 24) rfl rfl (by decide) ?_
  refine R_newiq (q := 9) rfl rfl (by decide) hm (fun M5 e5 c5 f5 => ?_)
  have h5 : M5.1 a = some (.inr (6, [.null, .null, .int 0, .int 0])) := (f5 _ (by omega)).trans ha
  have m5 : M5.2 = (n + 1, w + 24) := e5
  have d5 : M5.1 n = some (.inl (0, 24, .inl (fun _ => 0))) := c5
  refine R_putq (q := 12) rfl rfl rfl h5 (Nat.le_of_ble_eq_true rfl) rfl (fun _ => ⟨rfl, rfl⟩) rfl (fun M6 e6 c6 f6 => ?_)
  dsimp only [List.set] at c6
  have h6 : M6.1 a = some (.inr (6, [.ref n, .null, .int 0, .int 0])) := c6
  have m6 : M6.2 = (n + 1, w + 24) := e6.trans m5
  refine R_aload_n (q := 13) rfl rfl rfl ?_
  refine R_bipush (q := 15) (v := nI 32) rfl rfl (by decide) ?_
  refine R_newiq (q := 17) rfl rfl (by decide) m6 (fun M9 e9 c9 f9 => ?_)
  have h9 : M9.1 a = some (.inr (6, [.ref n, .null, .int 0, .int 0])) := (f9 _ (by omega)).trans h6
  have m9 : M9.2 = (n + 2, w + 56) := e9
  have d9 : M9.1 (n + 1) = some (.inl (0, 32, .inl (fun _ => 0))) := c9
  refine R_putq (q := 20) rfl rfl rfl h9 (Nat.le_of_ble_eq_true rfl) rfl (fun _ => ⟨rfl, rfl⟩) rfl (fun M10 e10 c10 f10 => ?_)
  dsimp only [List.set] at c10
  have h10 : M10.1 a = some (.inr (6, [.ref n, .ref (n + 1), .int 0, .int 0])) := c10
  have m10 : M10.2 = (n + 2, w + 56) := e10.trans m9
  have G4 : ∀ k, k ≠ a → k < n + 2 → M10.1 k = M10.1 k := fun _ _ _ => rfl
  have G3 : ∀ k, k ≠ a → k < n + 2 → M10.1 k = M9.1 k := fun k ha1 hk => (G4 k ha1 (by omega)).trans (f10 k (by omega))
  have G2 : ∀ k, k ≠ a → k < n + 1 → M10.1 k = M6.1 k := fun k ha1 hk => (G3 k ha1 (by omega)).trans (f9 k (by omega))
  have G1 : ∀ k, k ≠ a → k < n + 1 → M10.1 k = M5.1 k := fun k ha1 hk => (G2 k ha1 (by omega)).trans (f6 k (by omega))
  have G0 : ∀ k, k ≠ a → k < n + 0 → M10.1 k = M.1 k := fun k ha1 hk => (G1 k ha1 (by omega)).trans (f5 k (by omega))
  refine R_return rfl rfl ?_
  exact ⟨rfl, m10, fun k hk hka => G0 k hka (by omega), h10, (G1 _ (by omega) (by omega)).trans d5, (G3 _ (by omega) (by omega)).trans d9⟩
set_option maxRecDepth 8000 in
theorem i53 (ha : M.1 a = some (.inr (4, mm_df 4))) (hm : M.2 = (n, w)) (han : a < n) : mm_R S (d + 2) 53 0 (mm_en 53 [.ref a]) [] M (fun v M' => v = none ∧ M'.2 = (n + 21, w + 380) ∧ (∀ k, k < n → k ≠ a → M'.1 k = M.1 k) ∧ M'.1 a = some (.inr (4, [.ref n, .ref (n + 1), .ref (n + 2)])) ∧ M'.1 n = some (.inl (3, 6, .inr (.inr (.inr (.inr (va_up (va_up (va_up (va_up (va_up (va_up (fun _ => none) 0 (some (n + 3))) 1 (some (n + 6))) 2 (some (n + 9))) 3 (some (n + 12))) 4 (some (n + 15))) 5 (some (n + 18)))))))) ∧ M'.1 (n + 1) = some (.inl (0, 6, .inl (fun _ => 0))) ∧ M'.1 (n + 2) = some (.inl (0, 8, .inl (fun _ => 0))) ∧ M'.1 (n + 3) = some (.inr (6, [.ref (n + 4), .ref (n + 5), .int 0, .int 0])) ∧ M'.1 (n + 4) = some (.inl (0, 24, .inl (fun _ => 0))) ∧ M'.1 (n + 5) = some (.inl (0, 32, .inl (fun _ => 0))) ∧ M'.1 (n + 6) = some (.inr (6, [.ref (n + 7), .ref (n + 8), .int 0, .int 0])) ∧ M'.1 (n + 7) = some (.inl (0, 24, .inl (fun _ => 0))) ∧ M'.1 (n + 8) = some (.inl (0, 32, .inl (fun _ => 0))) ∧ M'.1 (n + 9) = some (.inr (6, [.ref (n + 10), .ref (n + 11), .int 0, .int 0])) ∧ M'.1 (n + 10) = some (.inl (0, 24, .inl (fun _ => 0))) ∧ M'.1 (n + 11) = some (.inl (0, 32, .inl (fun _ => 0))) ∧ M'.1 (n + 12) = some (.inr (6, [.ref (n + 13), .ref (n + 14), .int 0, .int 0])) ∧ M'.1 (n + 13) = some (.inl (0, 24, .inl (fun _ => 0))) ∧ M'.1 (n + 14) = some (.inl (0, 32, .inl (fun _ => 0))) ∧ M'.1 (n + 15) = some (.inr (6, [.ref (n + 16), .ref (n + 17), .int 0, .int 0])) ∧ M'.1 (n + 16) = some (.inl (0, 24, .inl (fun _ => 0))) ∧ M'.1 (n + 17) = some (.inl (0, 32, .inl (fun _ => 0))) ∧ M'.1 (n + 18) = some (.inr (6, [.ref (n + 19), .ref (n + 20), .int 0, .int 0])) ∧ M'.1 (n + 19) = some (.inl (0, 24, .inl (fun _ => 0))) ∧ M'.1 (n + 20) = some (.inl (0, 32, .inl (fun _ => 0)))) := by
  show mm_R S (d + 2) 53 0 [some (.ref a), none] [] M _
  refine R_aload_n (q := 1) rfl rfl rfl ?_
  refine R_objinit (q := 4) rfl rfl (by decide +kernel) rfl (by omega) (Nat.le_of_ble_eq_true rfl) ?_
  refine R_aload_n (q := 5) rfl rfl rfl ?_
  refine R_bipush (q := 7) (v := nI 6) rfl rfl (by decide) ?_
  refine R_anewq (q := 10) rfl rfl rfl (by decide) hm (fun M5 e5 c5 f5 => ?_)
  have h5 : M5.1 a = some (.inr (4, [.null, .null, .null])) := (f5 _ (by omega)).trans ha
  have m5 : M5.2 = (n + 1, w + 6) := e5
  have d5 : M5.1 n = some (.inl (3, 6, .inr (.inr (.inr (.inr (fun _ => none)))))) := c5
  refine R_putq (q := 13) rfl rfl rfl h5 (Nat.le_of_ble_eq_true rfl) rfl (fun _ => ⟨rfl, rfl⟩) rfl (fun M6 e6 c6 f6 => ?_)
  dsimp only [List.set] at c6
  have h6 : M6.1 a = some (.inr (4, [.ref n, .null, .null])) := c6
  have m6 : M6.2 = (n + 1, w + 6) := e6.trans m5
  have a6 : M6.1 n = some (.inl (3, 6, .inr (.inr (.inr (.inr (fun _ => none)))))) := (f6 _ (by omega)).trans d5
  refine R_aload_n (q := 14) rfl rfl rfl ?_
  refine R_bipush (q := 16) (v := nI 6) rfl rfl (by decide) ?_
  refine R_newiq (q := 18) rfl rfl (by decide) m6 (fun M9 e9 c9 f9 => ?_)
  have h9 : M9.1 a = some (.inr (4, [.ref n, .null, .null])) := (f9 _ (by omega)).trans h6
  have m9 : M9.2 = (n + 2, w + 12) := e9
  have a9 : M9.1 n = some (.inl (3, 6, .inr (.inr (.inr (.inr (fun _ => none)))))) := (f9 _ (by omega)).trans a6
  have d9 : M9.1 (n + 1) = some (.inl (0, 6, .inl (fun _ => 0))) := c9
  refine R_putq (q := 21) rfl rfl rfl h9 (Nat.le_of_ble_eq_true rfl) rfl (fun _ => ⟨rfl, rfl⟩) rfl (fun M10 e10 c10 f10 => ?_)
  dsimp only [List.set] at c10
  have h10 : M10.1 a = some (.inr (4, [.ref n, .ref (n + 1), .null])) := c10
  have m10 : M10.2 = (n + 2, w + 12) := e10.trans m9
  have a10 : M10.1 n = some (.inl (3, 6, .inr (.inr (.inr (.inr (fun _ => none)))))) := (f10 _ (by omega)).trans a9
  refine R_aload_n (q := 22) rfl rfl rfl ?_
  refine R_bipush (q := 24) (v := nI 8) rfl rfl (by decide) ?_
  refine R_newiq (q := 26) rfl rfl (by decide) m10 (fun M13 e13 c13 f13 => ?_)
  have h13 : M13.1 a = some (.inr (4, [.ref n, .ref (n + 1), .null])) := (f13 _ (by omega)).trans h10
  have m13 : M13.2 = (n + 3, w + 20) := e13
  have a13 : M13.1 n = some (.inl (3, 6, .inr (.inr (.inr (.inr (fun _ => none)))))) := (f13 _ (by omega)).trans a10
  have d13 : M13.1 (n + 2) = some (.inl (0, 8, .inl (fun _ => 0))) := c13
  refine R_putq (q := 29) rfl rfl rfl h13 (Nat.le_of_ble_eq_true rfl) rfl (fun _ => ⟨rfl, rfl⟩) rfl (fun M14 e14 c14 f14 => ?_)
  dsimp only [List.set] at c14
  have h14 : M14.1 a = some (.inr (4, [.ref n, .ref (n + 1), .ref (n + 2)])) := c14
  have m14 : M14.2 = (n + 3, w + 20) := e14.trans m13
  have a14 : M14.1 n = some (.inl (3, 6, .inr (.inr (.inr (.inr (fun _ => none)))))) := (f14 _ (by omega)).trans a13
  refine R_iconst (q := 30) (v := nI 0) rfl rfl (by decide) ?_
  refine R_istore_n (q := 31) rfl rfl (Nat.le_of_ble_eq_true rfl) rfl ?_
  dsimp only [List.set]
  refine R_iload_n (q := 32) rfl rfl rfl ?_
  refine R_bipush (q := 34) (v := nI 6) rfl rfl (by decide) ?_
  refine R_icmp_ge (q := 37) (t := 56) rfl rfl rfl (fun h => absurd h (by decide)) (fun _ => ?_)
  refine R_aload_n (q := 38) rfl rfl rfl ?_
  refine R_getf (q := 41) rfl rfl rfl h14 rfl ?_
  refine R_iload_n (q := 42) rfl rfl rfl ?_
  refine R_newq (q := 45) rfl rfl rfl m14 (fun M23 e23 c23 f23 => ?_)
  have h23 : M23.1 a = some (.inr (4, [.ref n, .ref (n + 1), .ref (n + 2)])) := (f23 _ (by omega)).trans h14
  have m23 : M23.2 = (n + 4, w + 24) := e23
  have a23 : M23.1 n = some (.inl (3, 6, .inr (.inr (.inr (.inr (fun _ => none)))))) := (f23 _ (by omega)).trans a14
  refine R_dupa (q := 46) rfl rfl ?_
  refine R_calli0 (q := 49) rfl rfl rfl rfl (Nat.le_of_ble_eq_true rfl) ?_
  refine R_mono (i75 c23 m23 (by omega)) (fun v25 M25 hr25 => ?_)
  obtain ⟨rfl, e25, f25, g25_0, g25_1, g25_2⟩ := hr25
  dsimp only [Option.toList, List.nil_append]
  have h25 : M25.1 a = some (.inr (4, [.ref n, .ref (n + 1), .ref (n + 2)])) := (f25 _ (by omega) (by omega)).trans h23
  have m25 : M25.2 = (n + 6, w + 80) := e25
  have a25 : M25.1 n = some (.inl (3, 6, .inr (.inr (.inr (.inr (fun _ => none)))))) := (f25 _ (by omega) (by omega)).trans a23
  refine R_aastq (q := 50) rfl rfl a25 g25_0 rfl (in_nI (by decide) (by decide)) (fun M26 e26 c26 f26 => ?_)
  have a26 : M26.1 n = some (.inl (3, 6, .inr (.inr (.inr (.inr (va_up (fun _ => none) 0 (some (n + 3)))))))) := c26
  have h26 : M26.1 a = some (.inr (4, [.ref n, .ref (n + 1), .ref (n + 2)])) := (f26 _ (by omega)).trans h25
  have m26 : M26.2 = (n + 6, w + 80) := e26.trans m25
  refine R_iinc (q := 53) rfl rfl rfl (nI_i1 0) rfl ?_
  dsimp only [List.set]
  refine R_goto (t := 31) rfl rfl ?_
  refine R_iload_n (q := 32) rfl rfl rfl ?_
  refine R_bipush (q := 34) (v := nI 6) rfl rfl (by decide) ?_
  refine R_icmp_ge (q := 37) (t := 56) rfl rfl rfl (fun h => absurd h (by decide)) (fun _ => ?_)
  refine R_aload_n (q := 38) rfl rfl rfl ?_
  refine R_getf (q := 41) rfl rfl rfl h26 rfl ?_
  refine R_iload_n (q := 42) rfl rfl rfl ?_
  refine R_newq (q := 45) rfl rfl rfl m26 (fun M35 e35 c35 f35 => ?_)
  have h35 : M35.1 a = some (.inr (4, [.ref n, .ref (n + 1), .ref (n + 2)])) := (f35 _ (by omega)).trans h26
  have m35 : M35.2 = (n + 7, w + 84) := e35
  have a35 : M35.1 n = some (.inl (3, 6, .inr (.inr (.inr (.inr (va_up (fun _ => none) 0 (some (n + 3)))))))) := (f35 _ (by omega)).trans a26
  refine R_dupa (q := 46) rfl rfl ?_
  refine R_calli0 (q := 49) rfl rfl rfl rfl (Nat.le_of_ble_eq_true rfl) ?_
  refine R_mono (i75 c35 m35 (by omega)) (fun v37 M37 hr37 => ?_)
  obtain ⟨rfl, e37, f37, g37_0, g37_1, g37_2⟩ := hr37
  dsimp only [Option.toList, List.nil_append]
  have h37 : M37.1 a = some (.inr (4, [.ref n, .ref (n + 1), .ref (n + 2)])) := (f37 _ (by omega) (by omega)).trans h35
  have m37 : M37.2 = (n + 9, w + 140) := e37
  have a37 : M37.1 n = some (.inl (3, 6, .inr (.inr (.inr (.inr (va_up (fun _ => none) 0 (some (n + 3)))))))) := (f37 _ (by omega) (by omega)).trans a35
  refine R_aastq (q := 50) rfl rfl a37 g37_0 rfl (in_nI (by decide) (by decide)) (fun M38 e38 c38 f38 => ?_)
  have a38 : M38.1 n = some (.inl (3, 6, .inr (.inr (.inr (.inr (va_up (va_up (fun _ => none) 0 (some (n + 3))) 1 (some (n + 6)))))))) := c38
  have h38 : M38.1 a = some (.inr (4, [.ref n, .ref (n + 1), .ref (n + 2)])) := (f38 _ (by omega)).trans h37
  have m38 : M38.2 = (n + 9, w + 140) := e38.trans m37
  refine R_iinc (q := 53) rfl rfl rfl (nI_i1 1) rfl ?_
  dsimp only [List.set]
  refine R_goto (t := 31) rfl rfl ?_
  refine R_iload_n (q := 32) rfl rfl rfl ?_
  refine R_bipush (q := 34) (v := nI 6) rfl rfl (by decide) ?_
  refine R_icmp_ge (q := 37) (t := 56) rfl rfl rfl (fun h => absurd h (by decide)) (fun _ => ?_)
  refine R_aload_n (q := 38) rfl rfl rfl ?_
  refine R_getf (q := 41) rfl rfl rfl h38 rfl ?_
  refine R_iload_n (q := 42) rfl rfl rfl ?_
  refine R_newq (q := 45) rfl rfl rfl m38 (fun M47 e47 c47 f47 => ?_)
  have h47 : M47.1 a = some (.inr (4, [.ref n, .ref (n + 1), .ref (n + 2)])) := (f47 _ (by omega)).trans h38
  have m47 : M47.2 = (n + 10, w + 144) := e47
  have a47 : M47.1 n = some (.inl (3, 6, .inr (.inr (.inr (.inr (va_up (va_up (fun _ => none) 0 (some (n + 3))) 1 (some (n + 6)))))))) := (f47 _ (by omega)).trans a38
  refine R_dupa (q := 46) rfl rfl ?_
  refine R_calli0 (q := 49) rfl rfl rfl rfl (Nat.le_of_ble_eq_true rfl) ?_
  refine R_mono (i75 c47 m47 (by omega)) (fun v49 M49 hr49 => ?_)
  obtain ⟨rfl, e49, f49, g49_0, g49_1, g49_2⟩ := hr49
  dsimp only [Option.toList, List.nil_append]
  have h49 : M49.1 a = some (.inr (4, [.ref n, .ref (n + 1), .ref (n + 2)])) := (f49 _ (by omega) (by omega)).trans h47
  have m49 : M49.2 = (n + 12, w + 200) := e49
  have a49 : M49.1 n = some (.inl (3, 6, .inr (.inr (.inr (.inr (va_up (va_up (fun _ => none) 0 (some (n + 3))) 1 (some (n + 6)))))))) := (f49 _ (by omega) (by omega)).trans a47
  refine R_aastq (q := 50) rfl rfl a49 g49_0 rfl (in_nI (by decide) (by decide)) (fun M50 e50 c50 f50 => ?_)
  have a50 : M50.1 n = some (.inl (3, 6, .inr (.inr (.inr (.inr (va_up (va_up (va_up (fun _ => none) 0 (some (n + 3))) 1 (some (n + 6))) 2 (some (n + 9)))))))) := c50
  have h50 : M50.1 a = some (.inr (4, [.ref n, .ref (n + 1), .ref (n + 2)])) := (f50 _ (by omega)).trans h49
  have m50 : M50.2 = (n + 12, w + 200) := e50.trans m49
  refine R_iinc (q := 53) rfl rfl rfl (nI_i1 2) rfl ?_
  dsimp only [List.set]
  refine R_goto (t := 31) rfl rfl ?_
  refine R_iload_n (q := 32) rfl rfl rfl ?_
  refine R_bipush (q := 34) (v := nI 6) rfl rfl (by decide) ?_
  refine R_icmp_ge (q := 37) (t := 56) rfl rfl rfl (fun h => absurd h (by decide)) (fun _ => ?_)
  refine R_aload_n (q := 38) rfl rfl rfl ?_
  refine R_getf (q := 41) rfl rfl rfl h50 rfl ?_
  refine R_iload_n (q := 42) rfl rfl rfl ?_
  refine R_newq (q := 45) rfl rfl rfl m50 (fun M59 e59 c59 f59 => ?_)
  have h59 : M59.1 a = some (.inr (4, [.ref n, .ref (n + 1), .ref (n + 2)])) := (f59 _ (by omega)).trans h50
  have m59 : M59.2 = (n + 13, w + 204) := e59
  have a59 : M59.1 n = some (.inl (3, 6, .inr (.inr (.inr (.inr (va_up (va_up (va_up (fun _ => none) 0 (some (n + 3))) 1 (some (n + 6))) 2 (some (n + 9)))))))) := (f59 _ (by omega)).trans a50
  refine R_dupa (q := 46) rfl rfl ?_
  refine R_calli0 (q := 49) rfl rfl rfl rfl (Nat.le_of_ble_eq_true rfl) ?_
  refine R_mono (i75 c59 m59 (by omega)) (fun v61 M61 hr61 => ?_)
  obtain ⟨rfl, e61, f61, g61_0, g61_1, g61_2⟩ := hr61
  dsimp only [Option.toList, List.nil_append]
  have h61 : M61.1 a = some (.inr (4, [.ref n, .ref (n + 1), .ref (n + 2)])) := (f61 _ (by omega) (by omega)).trans h59
  have m61 : M61.2 = (n + 15, w + 260) := e61
  have a61 : M61.1 n = some (.inl (3, 6, .inr (.inr (.inr (.inr (va_up (va_up (va_up (fun _ => none) 0 (some (n + 3))) 1 (some (n + 6))) 2 (some (n + 9)))))))) := (f61 _ (by omega) (by omega)).trans a59
  refine R_aastq (q := 50) rfl rfl a61 g61_0 rfl (in_nI (by decide) (by decide)) (fun M62 e62 c62 f62 => ?_)
  have a62 : M62.1 n = some (.inl (3, 6, .inr (.inr (.inr (.inr (va_up (va_up (va_up (va_up (fun _ => none) 0 (some (n + 3))) 1 (some (n + 6))) 2 (some (n + 9))) 3 (some (n + 12)))))))) := c62
  have h62 : M62.1 a = some (.inr (4, [.ref n, .ref (n + 1), .ref (n + 2)])) := (f62 _ (by omega)).trans h61
  have m62 : M62.2 = (n + 15, w + 260) := e62.trans m61
  refine R_iinc (q := 53) rfl rfl rfl (nI_i1 3) rfl ?_
  dsimp only [List.set]
  refine R_goto (t := 31) rfl rfl ?_
  refine R_iload_n (q := 32) rfl rfl rfl ?_
  refine R_bipush (q := 34) (v := nI 6) rfl rfl (by decide) ?_
  refine R_icmp_ge (q := 37) (t := 56) rfl rfl rfl (fun h => absurd h (by decide)) (fun _ => ?_)
  refine R_aload_n (q := 38) rfl rfl rfl ?_
  refine R_getf (q := 41) rfl rfl rfl h62 rfl ?_
  refine R_iload_n (q := 42) rfl rfl rfl ?_
  refine R_newq (q := 45) rfl rfl rfl m62 (fun M71 e71 c71 f71 => ?_)
  have h71 : M71.1 a = some (.inr (4, [.ref n, .ref (n + 1), .ref (n + 2)])) := (f71 _ (by omega)).trans h62
  have m71 : M71.2 = (n + 16, w + 264) := e71
  have a71 : M71.1 n = some (.inl (3, 6, .inr (.inr (.inr (.inr (va_up (va_up (va_up (va_up (fun _ => none) 0 (some (n + 3))) 1 (some (n + 6))) 2 (some (n + 9))) 3 (some (n + 12)))))))) := (f71 _ (by omega)).trans a62
  refine R_dupa (q := 46) rfl rfl ?_
  refine R_calli0 (q := 49) rfl rfl rfl rfl (Nat.le_of_ble_eq_true rfl) ?_
  refine R_mono (i75 c71 m71 (by omega)) (fun v73 M73 hr73 => ?_)
  obtain ⟨rfl, e73, f73, g73_0, g73_1, g73_2⟩ := hr73
  dsimp only [Option.toList, List.nil_append]
  have h73 : M73.1 a = some (.inr (4, [.ref n, .ref (n + 1), .ref (n + 2)])) := (f73 _ (by omega) (by omega)).trans h71
  have m73 : M73.2 = (n + 18, w + 320) := e73
  have a73 : M73.1 n = some (.inl (3, 6, .inr (.inr (.inr (.inr (va_up (va_up (va_up (va_up (fun _ => none) 0 (some (n + 3))) 1 (some (n + 6))) 2 (some (n + 9))) 3 (some (n + 12)))))))) := (f73 _ (by omega) (by omega)).trans a71
  refine R_aastq (q := 50) rfl rfl a73 g73_0 rfl (in_nI (by decide) (by decide)) (fun M74 e74 c74 f74 => ?_)
  have a74 : M74.1 n = some (.inl (3, 6, .inr (.inr (.inr (.inr (va_up (va_up (va_up (va_up (va_up (fun _ => none) 0 (some (n + 3))) 1 (some (n + 6))) 2 (some (n + 9))) 3 (some (n + 12))) 4 (some (n + 15)))))))) := c74
  have h74 : M74.1 a = some (.inr (4, [.ref n, .ref (n + 1), .ref (n + 2)])) := (f74 _ (by omega)).trans h73
  have m74 : M74.2 = (n + 18, w + 320) := e74.trans m73
  refine R_iinc (q := 53) rfl rfl rfl (nI_i1 4) rfl ?_
  dsimp only [List.set]
  refine R_goto (t := 31) rfl rfl ?_
  refine R_iload_n (q := 32) rfl rfl rfl ?_
  refine R_bipush (q := 34) (v := nI 6) rfl rfl (by decide) ?_
  refine R_icmp_ge (q := 37) (t := 56) rfl rfl rfl (fun h => absurd h (by decide)) (fun _ => ?_)
  refine R_aload_n (q := 38) rfl rfl rfl ?_
  refine R_getf (q := 41) rfl rfl rfl h74 rfl ?_
  refine R_iload_n (q := 42) rfl rfl rfl ?_
  refine R_newq (q := 45) rfl rfl rfl m74 (fun M83 e83 c83 f83 => ?_)
  have h83 : M83.1 a = some (.inr (4, [.ref n, .ref (n + 1), .ref (n + 2)])) := (f83 _ (by omega)).trans h74
  have m83 : M83.2 = (n + 19, w + 324) := e83
  have a83 : M83.1 n = some (.inl (3, 6, .inr (.inr (.inr (.inr (va_up (va_up (va_up (va_up (va_up (fun _ => none) 0 (some (n + 3))) 1 (some (n + 6))) 2 (some (n + 9))) 3 (some (n + 12))) 4 (some (n + 15)))))))) := (f83 _ (by omega)).trans a74
  refine R_dupa (q := 46) rfl rfl ?_
  refine R_calli0 (q := 49) rfl rfl rfl rfl (Nat.le_of_ble_eq_true rfl) ?_
  refine R_mono (i75 c83 m83 (by omega)) (fun v85 M85 hr85 => ?_)
  obtain ⟨rfl, e85, f85, g85_0, g85_1, g85_2⟩ := hr85
  dsimp only [Option.toList, List.nil_append]
  have h85 : M85.1 a = some (.inr (4, [.ref n, .ref (n + 1), .ref (n + 2)])) := (f85 _ (by omega) (by omega)).trans h83
  have m85 : M85.2 = (n + 21, w + 380) := e85
  have a85 : M85.1 n = some (.inl (3, 6, .inr (.inr (.inr (.inr (va_up (va_up (va_up (va_up (va_up (fun _ => none) 0 (some (n + 3))) 1 (some (n + 6))) 2 (some (n + 9))) 3 (some (n + 12))) 4 (some (n + 15)))))))) := (f85 _ (by omega) (by omega)).trans a83
  refine R_aastq (q := 50) rfl rfl a85 g85_0 rfl (in_nI (by decide) (by decide)) (fun M86 e86 c86 f86 => ?_)
  have a86 : M86.1 n = some (.inl (3, 6, .inr (.inr (.inr (.inr (va_up (va_up (va_up (va_up (va_up (va_up (fun _ => none) 0 (some (n + 3))) 1 (some (n + 6))) 2 (some (n + 9))) 3 (some (n + 12))) 4 (some (n + 15))) 5 (some (n + 18)))))))) := c86
  have h86 : M86.1 a = some (.inr (4, [.ref n, .ref (n + 1), .ref (n + 2)])) := (f86 _ (by omega)).trans h85
  have m86 : M86.2 = (n + 21, w + 380) := e86.trans m85
  refine R_iinc (q := 53) rfl rfl rfl (nI_i1 5) rfl ?_
  dsimp only [List.set]
  refine R_goto (t := 31) rfl rfl ?_
  refine R_iload_n (q := 32) rfl rfl rfl ?_
  refine R_bipush (q := 34) (v := nI 6) rfl rfl (by decide) ?_
  refine R_icmp_ge (q := 37) (t := 56) rfl rfl rfl (fun _ => ?_) (fun h => absurd (by decide) h)
  have G24 : ∀ k, k ≠ a → k ≠ n → k < n + 21 → M86.1 k = M86.1 k := fun _ _ _ _ => rfl
  have G23 : ∀ k, k ≠ a → k ≠ n → k < n + 21 → M86.1 k = M85.1 k := fun k ha1 hx hk => (G24 k ha1 hx (by omega)).trans (f86 k (by omega))
  have G22 : ∀ k, k ≠ a → k ≠ n → k < n + 18 → M86.1 k = M83.1 k := fun k ha1 hx hk => (G23 k ha1 hx (by omega)).trans (f85 k (by omega) (by omega))
  have G21 : ∀ k, k ≠ a → k ≠ n → k < n + 18 → M86.1 k = M74.1 k := fun k ha1 hx hk => (G22 k ha1 hx (by omega)).trans (f83 k (by omega))
  have G20 : ∀ k, k ≠ a → k ≠ n → k < n + 18 → M86.1 k = M73.1 k := fun k ha1 hx hk => (G21 k ha1 hx (by omega)).trans (f74 k (by omega))
  have G19 : ∀ k, k ≠ a → k ≠ n → k < n + 15 → M86.1 k = M71.1 k := fun k ha1 hx hk => (G20 k ha1 hx (by omega)).trans (f73 k (by omega) (by omega))
  have G18 : ∀ k, k ≠ a → k ≠ n → k < n + 15 → M86.1 k = M62.1 k := fun k ha1 hx hk => (G19 k ha1 hx (by omega)).trans (f71 k (by omega))
  have G17 : ∀ k, k ≠ a → k ≠ n → k < n + 15 → M86.1 k = M61.1 k := fun k ha1 hx hk => (G18 k ha1 hx (by omega)).trans (f62 k (by omega))
  have G16 : ∀ k, k ≠ a → k ≠ n → k < n + 12 → M86.1 k = M59.1 k := fun k ha1 hx hk => (G17 k ha1 hx (by omega)).trans (f61 k (by omega) (by omega))
  have G15 : ∀ k, k ≠ a → k ≠ n → k < n + 12 → M86.1 k = M50.1 k := fun k ha1 hx hk => (G16 k ha1 hx (by omega)).trans (f59 k (by omega))
  have G14 : ∀ k, k ≠ a → k ≠ n → k < n + 12 → M86.1 k = M49.1 k := fun k ha1 hx hk => (G15 k ha1 hx (by omega)).trans (f50 k (by omega))
  have G13 : ∀ k, k ≠ a → k ≠ n → k < n + 9 → M86.1 k = M47.1 k := fun k ha1 hx hk => (G14 k ha1 hx (by omega)).trans (f49 k (by omega) (by omega))
  have G12 : ∀ k, k ≠ a → k ≠ n → k < n + 9 → M86.1 k = M38.1 k := fun k ha1 hx hk => (G13 k ha1 hx (by omega)).trans (f47 k (by omega))
  have G11 : ∀ k, k ≠ a → k ≠ n → k < n + 9 → M86.1 k = M37.1 k := fun k ha1 hx hk => (G12 k ha1 hx (by omega)).trans (f38 k (by omega))
  have G10 : ∀ k, k ≠ a → k ≠ n → k < n + 6 → M86.1 k = M35.1 k := fun k ha1 hx hk => (G11 k ha1 hx (by omega)).trans (f37 k (by omega) (by omega))
  have G9 : ∀ k, k ≠ a → k ≠ n → k < n + 6 → M86.1 k = M26.1 k := fun k ha1 hx hk => (G10 k ha1 hx (by omega)).trans (f35 k (by omega))
  have G8 : ∀ k, k ≠ a → k ≠ n → k < n + 6 → M86.1 k = M25.1 k := fun k ha1 hx hk => (G9 k ha1 hx (by omega)).trans (f26 k (by omega))
  have G7 : ∀ k, k ≠ a → k ≠ n → k < n + 3 → M86.1 k = M23.1 k := fun k ha1 hx hk => (G8 k ha1 hx (by omega)).trans (f25 k (by omega) (by omega))
  have G6 : ∀ k, k ≠ a → k ≠ n → k < n + 3 → M86.1 k = M14.1 k := fun k ha1 hx hk => (G7 k ha1 hx (by omega)).trans (f23 k (by omega))
  have G5 : ∀ k, k ≠ a → k ≠ n → k < n + 3 → M86.1 k = M13.1 k := fun k ha1 hx hk => (G6 k ha1 hx (by omega)).trans (f14 k (by omega))
  have G4 : ∀ k, k ≠ a → k ≠ n → k < n + 2 → M86.1 k = M10.1 k := fun k ha1 hx hk => (G5 k ha1 hx (by omega)).trans (f13 k (by omega))
  have G3 : ∀ k, k ≠ a → k ≠ n → k < n + 2 → M86.1 k = M9.1 k := fun k ha1 hx hk => (G4 k ha1 hx (by omega)).trans (f10 k (by omega))
  have G2 : ∀ k, k ≠ a → k ≠ n → k < n + 0 → M86.1 k = M6.1 k := fun k ha1 hx hk => (G3 k ha1 hx (by omega)).trans (f9 k (by omega))
  have G1 : ∀ k, k ≠ a → k ≠ n → k < n + 0 → M86.1 k = M5.1 k := fun k ha1 hx hk => (G2 k ha1 hx (by omega)).trans (f6 k (by omega))
  have G0 : ∀ k, k ≠ a → k ≠ n → k < n + 0 → M86.1 k = M.1 k := fun k ha1 hx hk => (G1 k ha1 hx (by omega)).trans (f5 k (by omega))
  refine R_return rfl rfl ?_
  exact ⟨rfl, m86, fun k hk hka => G0 k hka (by omega) (by omega), h86, a86, (G3 _ (by omega) (by omega) (by omega)).trans d9, (G5 _ (by omega) (by omega) (by omega)).trans d13, (G8 _ (by omega) (by omega) (by omega)).trans g25_0, (G8 _ (by omega) (by omega) (by omega)).trans g25_1, (G8 _ (by omega) (by omega) (by omega)).trans g25_2, (G11 _ (by omega) (by omega) (by omega)).trans g37_0, (G11 _ (by omega) (by omega) (by omega)).trans g37_1, (G11 _ (by omega) (by omega) (by omega)).trans g37_2, (G14 _ (by omega) (by omega) (by omega)).trans g49_0, (G14 _ (by omega) (by omega) (by omega)).trans g49_1, (G14 _ (by omega) (by omega) (by omega)).trans g49_2, (G17 _ (by omega) (by omega) (by omega)).trans g61_0, (G17 _ (by omega) (by omega) (by omega)).trans g61_1, (G17 _ (by omega) (by omega) (by omega)).trans g61_2, (G20 _ (by omega) (by omega) (by omega)).trans g73_0, (G20 _ (by omega) (by omega) (by omega)).trans g73_1, (G20 _ (by omega) (by omega) (by omega)).trans g73_2, (G23 _ (by omega) (by omega) (by omega)).trans g85_0, (G23 _ (by omega) (by omega) (by omega)).trans g85_1, (G23 _ (by omega) (by omega) (by omega)).trans g85_2⟩
set_option maxRecDepth 8000 in
theorem i67 (ha : M.1 a = some (.inr (5, mm_df 5))) (hm : M.2 = (n, w)) (han : a < n) : mm_R S (d + 1) 67 0 (mm_en 67 [.ref a]) [] M (fun v M' => v = none ∧ M'.2 = (n + 2, w + 48) ∧ (∀ k, k < n → k ≠ a → M'.1 k = M.1 k) ∧ M'.1 a = some (.inr (5, [.ref n, .ref (n + 1), .int 0])) ∧ M'.1 n = some (.inl (0, 24, .inl (fun _ => 0))) ∧ M'.1 (n + 1) = some (.inl (0, 24, .inl (fun _ => 0)))) := by
  show mm_R S (d + 1) 67 0 [some (.ref a)] [] M _
  refine R_aload_n (q := 1) rfl rfl rfl ?_
  refine R_objinit (q := 4) rfl rfl (by decide +kernel) rfl (by omega) (Nat.le_of_ble_eq_true rfl) ?_
  refine R_aload_n (q := 5) rfl rfl rfl ?_
  refine R_bipush (q := 7) (v := nI 24) rfl rfl (by decide) ?_
  refine R_newiq (q := 9) rfl rfl (by decide) hm (fun M5 e5 c5 f5 => ?_)
  have h5 : M5.1 a = some (.inr (5, [.null, .null, .int 0])) := (f5 _ (by omega)).trans ha
  have m5 : M5.2 = (n + 1, w + 24) := e5
  have d5 : M5.1 n = some (.inl (0, 24, .inl (fun _ => 0))) := c5
  refine R_putq (q := 12) rfl rfl rfl h5 (Nat.le_of_ble_eq_true rfl) rfl (fun _ => ⟨rfl, rfl⟩) rfl (fun M6 e6 c6 f6 => ?_)
  dsimp only [List.set] at c6
  have h6 : M6.1 a = some (.inr (5, [.ref n, .null, .int 0])) := c6
  have m6 : M6.2 = (n + 1, w + 24) := e6.trans m5
  refine R_aload_n (q := 13) rfl rfl rfl ?_
  refine R_bipush (q := 15) (v := nI 24) rfl rfl (by decide) ?_
  refine R_newiq (q := 17) rfl rfl (by decide) m6 (fun M9 e9 c9 f9 => ?_)
  have h9 : M9.1 a = some (.inr (5, [.ref n, .null, .int 0])) := (f9 _ (by omega)).trans h6
  have m9 : M9.2 = (n + 2, w + 48) := e9
  have d9 : M9.1 (n + 1) = some (.inl (0, 24, .inl (fun _ => 0))) := c9
  refine R_putq (q := 20) rfl rfl rfl h9 (Nat.le_of_ble_eq_true rfl) rfl (fun _ => ⟨rfl, rfl⟩) rfl (fun M10 e10 c10 f10 => ?_)
  dsimp only [List.set] at c10
  have h10 : M10.1 a = some (.inr (5, [.ref n, .ref (n + 1), .int 0])) := c10
  have m10 : M10.2 = (n + 2, w + 48) := e10.trans m9
  have G4 : ∀ k, k ≠ a → k < n + 2 → M10.1 k = M10.1 k := fun _ _ _ => rfl
  have G3 : ∀ k, k ≠ a → k < n + 2 → M10.1 k = M9.1 k := fun k ha1 hk => (G4 k ha1 (by omega)).trans (f10 k (by omega))
  have G2 : ∀ k, k ≠ a → k < n + 1 → M10.1 k = M6.1 k := fun k ha1 hk => (G3 k ha1 (by omega)).trans (f9 k (by omega))
  have G1 : ∀ k, k ≠ a → k < n + 1 → M10.1 k = M5.1 k := fun k ha1 hk => (G2 k ha1 (by omega)).trans (f6 k (by omega))
  have G0 : ∀ k, k ≠ a → k < n + 0 → M10.1 k = M.1 k := fun k ha1 hk => (G1 k ha1 (by omega)).trans (f5 k (by omega))
  refine R_return rfl rfl ?_
  exact ⟨rfl, m10, fun k hk hka => G0 k hka (by omega), h10, (G1 _ (by omega) (by omega)).trans d5, (G3 _ (by omega) (by omega)).trans d9⟩
set_option maxRecDepth 8000 in
theorem i83 (ha : M.1 a = some (.inr (7, mm_df 7))) (hm : M.2 = (n, w)) (han : a < n) : mm_R S (d + 2) 83 0 (mm_en 83 [.ref a]) [] M (fun v M' => v = none ∧ M'.2 = (n + 4, w + 34) ∧ (∀ k, k < n → k ≠ a → M'.1 k = M.1 k) ∧ M'.1 a = some (.inr (7, [.ref n, .ref (n + 2)])) ∧ M'.1 n = some (.inr (0, [.ref (n + 1)])) ∧ M'.1 (n + 1) = some (.inl (0, 16, .inl (fun _ => 0))) ∧ M'.1 (n + 2) = some (.inr (0, [.ref (n + 3)])) ∧ M'.1 (n + 3) = some (.inl (0, 16, .inl (fun _ => 0)))) := by
  show mm_R S (d + 2) 83 0 [some (.ref a)] [] M _
  refine R_aload_n (q := 1) rfl rfl rfl ?_
  refine R_objinit (q := 4) rfl rfl (by decide +kernel) rfl (by omega) (Nat.le_of_ble_eq_true rfl) ?_
  refine R_aload_n (q := 5) rfl rfl rfl ?_
  refine R_newq (q := 8) rfl rfl rfl hm (fun M4 e4 c4 f4 => ?_)
  have h4 : M4.1 a = some (.inr (7, [.null, .null])) := (f4 _ (by omega)).trans ha
  have m4 : M4.2 = (n + 1, w + 1) := e4
  refine R_dupa (q := 9) rfl rfl ?_
  refine R_calli0 (q := 12) rfl rfl rfl rfl (Nat.le_of_ble_eq_true rfl) ?_
  refine R_mono (i1 c4 m4 (by omega)) (fun v6 M6 hr6 => ?_)
  obtain ⟨rfl, e6, f6, g6_0, g6_1⟩ := hr6
  dsimp only [Option.toList, List.nil_append]
  have h6 : M6.1 a = some (.inr (7, [.null, .null])) := (f6 _ (by omega) (by omega)).trans h4
  have m6 : M6.2 = (n + 2, w + 17) := e6
  refine R_putq (q := 15) rfl rfl rfl h6 (Nat.le_of_ble_eq_true rfl) rfl (fun _ => ⟨rfl, rfl⟩) rfl (fun M7 e7 c7 f7 => ?_)
  dsimp only [List.set] at c7
  have h7 : M7.1 a = some (.inr (7, [.ref n, .null])) := c7
  have m7 : M7.2 = (n + 2, w + 17) := e7.trans m6
  refine R_aload_n (q := 16) rfl rfl rfl ?_
  refine R_newq (q := 19) rfl rfl rfl m7 (fun M9 e9 c9 f9 => ?_)
  have h9 : M9.1 a = some (.inr (7, [.ref n, .null])) := (f9 _ (by omega)).trans h7
  have m9 : M9.2 = (n + 3, w + 18) := e9
  refine R_dupa (q := 20) rfl rfl ?_
  refine R_calli0 (q := 23) rfl rfl rfl rfl (Nat.le_of_ble_eq_true rfl) ?_
  refine R_mono (i1 c9 m9 (by omega)) (fun v11 M11 hr11 => ?_)
  obtain ⟨rfl, e11, f11, g11_0, g11_1⟩ := hr11
  dsimp only [Option.toList, List.nil_append]
  have h11 : M11.1 a = some (.inr (7, [.ref n, .null])) := (f11 _ (by omega) (by omega)).trans h9
  have m11 : M11.2 = (n + 4, w + 34) := e11
  refine R_putq (q := 26) rfl rfl rfl h11 (Nat.le_of_ble_eq_true rfl) rfl (fun _ => ⟨rfl, rfl⟩) rfl (fun M12 e12 c12 f12 => ?_)
  dsimp only [List.set] at c12
  have h12 : M12.1 a = some (.inr (7, [.ref n, .ref (n + 2)])) := c12
  have m12 : M12.2 = (n + 4, w + 34) := e12.trans m11
  have G6 : ∀ k, k ≠ a → k < n + 4 → M12.1 k = M12.1 k := fun _ _ _ => rfl
  have G5 : ∀ k, k ≠ a → k < n + 4 → M12.1 k = M11.1 k := fun k ha1 hk => (G6 k ha1 (by omega)).trans (f12 k (by omega))
  have G4 : ∀ k, k ≠ a → k < n + 2 → M12.1 k = M9.1 k := fun k ha1 hk => (G5 k ha1 (by omega)).trans (f11 k (by omega) (by omega))
  have G3 : ∀ k, k ≠ a → k < n + 2 → M12.1 k = M7.1 k := fun k ha1 hk => (G4 k ha1 (by omega)).trans (f9 k (by omega))
  have G2 : ∀ k, k ≠ a → k < n + 2 → M12.1 k = M6.1 k := fun k ha1 hk => (G3 k ha1 (by omega)).trans (f7 k (by omega))
  have G1 : ∀ k, k ≠ a → k < n + 0 → M12.1 k = M4.1 k := fun k ha1 hk => (G2 k ha1 (by omega)).trans (f6 k (by omega) (by omega))
  have G0 : ∀ k, k ≠ a → k < n + 0 → M12.1 k = M.1 k := fun k ha1 hk => (G1 k ha1 (by omega)).trans (f4 k (by omega))
  refine R_return rfl rfl ?_
  exact ⟨rfl, m12, fun k hk hka => G0 k hka (by omega), h12, (G2 _ (by omega) (by omega)).trans g6_0, (G2 _ (by omega) (by omega)).trans g6_1, (G5 _ (by omega) (by omega)).trans g11_0, (G5 _ (by omega) (by omega)).trans g11_1⟩
set_option maxRecDepth 8000 in
theorem i91 (ha : M.1 a = some (.inr (8, mm_df 8))) (hm : M.2 = (n, w)) (han : a < n) : mm_R S (d + 1) 91 0 (mm_en 91 [.ref a]) [] M (fun v M' => v = none ∧ M'.2 = (n + 1, w + 400) ∧ (∀ k, k < n → k ≠ a → M'.1 k = M.1 k) ∧ M'.1 a = some (.inr (8, [.ref n, .int 0])) ∧ M'.1 n = some (.inl (0, 400, .inl (fun _ => 0)))) := by
  show mm_R S (d + 1) 91 0 [some (.ref a)] [] M _
  refine R_aload_n (q := 1) rfl rfl rfl ?_
  refine R_objinit (q := 4) rfl rfl (by decide +kernel) rfl (by omega) (Nat.le_of_ble_eq_true rfl) ?_
  refine R_aload_n (q := 5) rfl rfl rfl ?_
  refine R_sipush (q := 8) (v := nI 400) rfl rfl (by decide) ?_
  refine R_newiq (q := 10) rfl rfl (by decide) hm (fun M5 e5 c5 f5 => ?_)
  have h5 : M5.1 a = some (.inr (8, [.null, .int 0])) := (f5 _ (by omega)).trans ha
  have m5 : M5.2 = (n + 1, w + 400) := e5
  have d5 : M5.1 n = some (.inl (0, 400, .inl (fun _ => 0))) := c5
  refine R_putq (q := 13) rfl rfl rfl h5 (Nat.le_of_ble_eq_true rfl) rfl (fun _ => ⟨rfl, rfl⟩) rfl (fun M6 e6 c6 f6 => ?_)
  dsimp only [List.set] at c6
  have h6 : M6.1 a = some (.inr (8, [.ref n, .int 0])) := c6
  have m6 : M6.2 = (n + 1, w + 400) := e6.trans m5
  have G2 : ∀ k, k ≠ a → k < n + 1 → M6.1 k = M6.1 k := fun _ _ _ => rfl
  have G1 : ∀ k, k ≠ a → k < n + 1 → M6.1 k = M5.1 k := fun k ha1 hk => (G2 k ha1 (by omega)).trans (f6 k (by omega))
  have G0 : ∀ k, k ≠ a → k < n + 0 → M6.1 k = M.1 k := fun k ha1 hk => (G1 k ha1 (by omega)).trans (f5 k (by omega))
  refine R_return rfl rfl ?_
  exact ⟨rfl, m6, fun k hk hka => G0 k hka (by omega), h6, (G1 _ (by omega) (by omega)).trans d5⟩
set_option maxRecDepth 8000 in
theorem i98 (ha : M.1 a = some (.inr (9, mm_df 9))) (hm : M.2 = (n, w)) (han : a < n) : mm_R S (d + 1) 98 0 (mm_en 98 [.ref a]) [] M (fun v M' => v = none ∧ M'.2 = (n + 0, w + 0) ∧ (∀ k, k < n → k ≠ a → M'.1 k = M.1 k) ∧ M'.1 a = some (.inr (9, [.int 0, .int 0, .int 0, .int 0, .int 0, .int 0, .int 0, .int 0, .int 0, .int 0]))) := by
  show mm_R S (d + 1) 98 0 [some (.ref a)] [] M _
  refine R_aload_n (q := 1) rfl rfl rfl ?_
  refine R_objinit (q := 4) rfl rfl (by decide +kernel) rfl (by omega) (Nat.le_of_ble_eq_true rfl) ?_
  have G0 : ∀ k, k ≠ a → k < n + 0 → M.1 k = M.1 k := fun _ _ _ => rfl
  refine R_return rfl rfl ?_
  exact ⟨rfl, hm, fun k hk hka => G0 k hka (by omega), ha⟩
set_option maxRecDepth 8000 in
theorem i106 (ha : M.1 a = some (.inr (10, mm_df 10))) (hm : M.2 = (n, w)) (han : a < n) : mm_R S (d + 2) 106 0 (mm_en 106 [.ref a]) [] M (fun v M' => v = none ∧ M'.2 = (n + 4, w + 914) ∧ (∀ k, k < n → k ≠ a → M'.1 k = M.1 k) ∧ M'.1 a = some (.inr (10, [.ref n, .ref (n + 2), .ref (n + 3), .int 0, .int 0])) ∧ M'.1 n = some (.inr (8, [.ref (n + 1), .int 0])) ∧ M'.1 (n + 1) = some (.inl (0, 400, .inl (fun _ => 0))) ∧ M'.1 (n + 2) = some (.inl (0, 256, .inl (fun _ => 0))) ∧ M'.1 (n + 3) = some (.inl (0, 256, .inl (fun _ => 0)))) := by
  show mm_R S (d + 2) 106 0 [some (.ref a)] [] M _
  refine R_aload_n (q := 1) rfl rfl rfl ?_
  refine R_objinit (q := 4) rfl rfl (by decide +kernel) rfl (by omega) (Nat.le_of_ble_eq_true rfl) ?_
  refine R_aload_n (q := 5) rfl rfl rfl ?_
  refine R_newq (q := 8) rfl rfl rfl hm (fun M4 e4 c4 f4 => ?_)
  have h4 : M4.1 a = some (.inr (10, [.null, .null, .null, .int 0, .int 0])) := (f4 _ (by omega)).trans ha
  have m4 : M4.2 = (n + 1, w + 2) := e4
  refine R_dupa (q := 9) rfl rfl ?_
  refine R_calli0 (q := 12) rfl rfl rfl rfl (Nat.le_of_ble_eq_true rfl) ?_
  refine R_mono (i91 c4 m4 (by omega)) (fun v6 M6 hr6 => ?_)
  obtain ⟨rfl, e6, f6, g6_0, g6_1⟩ := hr6
  dsimp only [Option.toList, List.nil_append]
  have h6 : M6.1 a = some (.inr (10, [.null, .null, .null, .int 0, .int 0])) := (f6 _ (by omega) (by omega)).trans h4
  have m6 : M6.2 = (n + 2, w + 402) := e6
  refine R_putq (q := 15) rfl rfl rfl h6 (Nat.le_of_ble_eq_true rfl) rfl (fun _ => ⟨rfl, rfl⟩) rfl (fun M7 e7 c7 f7 => ?_)
  dsimp only [List.set] at c7
  have h7 : M7.1 a = some (.inr (10, [.ref n, .null, .null, .int 0, .int 0])) := c7
  have m7 : M7.2 = (n + 2, w + 402) := e7.trans m6
  refine R_aload_n (q := 16) rfl rfl rfl ?_
  refine R_sipush (q := 19) (v := nI 256) rfl rfl (by decide) ?_
  refine R_newiq (q := 21) rfl rfl (by decide) m7 (fun M10 e10 c10 f10 => ?_)
  have h10 : M10.1 a = some (.inr (10, [.ref n, .null, .null, .int 0, .int 0])) := (f10 _ (by omega)).trans h7
  have m10 : M10.2 = (n + 3, w + 658) := e10
  have d10 : M10.1 (n + 2) = some (.inl (0, 256, .inl (fun _ => 0))) := c10
  refine R_putq (q := 24) rfl rfl rfl h10 (Nat.le_of_ble_eq_true rfl) rfl (fun _ => ⟨rfl, rfl⟩) rfl (fun M11 e11 c11 f11 => ?_)
  dsimp only [List.set] at c11
  have h11 : M11.1 a = some (.inr (10, [.ref n, .ref (n + 2), .null, .int 0, .int 0])) := c11
  have m11 : M11.2 = (n + 3, w + 658) := e11.trans m10
  refine R_aload_n (q := 25) rfl rfl rfl ?_
  refine R_sipush (q := 28) (v := nI 256) rfl rfl (by decide) ?_
  refine R_newiq (q := 30) rfl rfl (by decide) m11 (fun M14 e14 c14 f14 => ?_)
  have h14 : M14.1 a = some (.inr (10, [.ref n, .ref (n + 2), .null, .int 0, .int 0])) := (f14 _ (by omega)).trans h11
  have m14 : M14.2 = (n + 4, w + 914) := e14
  have d14 : M14.1 (n + 3) = some (.inl (0, 256, .inl (fun _ => 0))) := c14
  refine R_putq (q := 33) rfl rfl rfl h14 (Nat.le_of_ble_eq_true rfl) rfl (fun _ => ⟨rfl, rfl⟩) rfl (fun M15 e15 c15 f15 => ?_)
  dsimp only [List.set] at c15
  have h15 : M15.1 a = some (.inr (10, [.ref n, .ref (n + 2), .ref (n + 3), .int 0, .int 0])) := c15
  have m15 : M15.2 = (n + 4, w + 914) := e15.trans m14
  have G7 : ∀ k, k ≠ a → k < n + 4 → M15.1 k = M15.1 k := fun _ _ _ => rfl
  have G6 : ∀ k, k ≠ a → k < n + 4 → M15.1 k = M14.1 k := fun k ha1 hk => (G7 k ha1 (by omega)).trans (f15 k (by omega))
  have G5 : ∀ k, k ≠ a → k < n + 3 → M15.1 k = M11.1 k := fun k ha1 hk => (G6 k ha1 (by omega)).trans (f14 k (by omega))
  have G4 : ∀ k, k ≠ a → k < n + 3 → M15.1 k = M10.1 k := fun k ha1 hk => (G5 k ha1 (by omega)).trans (f11 k (by omega))
  have G3 : ∀ k, k ≠ a → k < n + 2 → M15.1 k = M7.1 k := fun k ha1 hk => (G4 k ha1 (by omega)).trans (f10 k (by omega))
  have G2 : ∀ k, k ≠ a → k < n + 2 → M15.1 k = M6.1 k := fun k ha1 hk => (G3 k ha1 (by omega)).trans (f7 k (by omega))
  have G1 : ∀ k, k ≠ a → k < n + 0 → M15.1 k = M4.1 k := fun k ha1 hk => (G2 k ha1 (by omega)).trans (f6 k (by omega) (by omega))
  have G0 : ∀ k, k ≠ a → k < n + 0 → M15.1 k = M.1 k := fun k ha1 hk => (G1 k ha1 (by omega)).trans (f4 k (by omega))
  refine R_return rfl rfl ?_
  exact ⟨rfl, m15, fun k hk hka => G0 k hka (by omega), h15, (G2 _ (by omega) (by omega)).trans g6_0, (G2 _ (by omega) (by omega)).trans g6_1, (G4 _ (by omega) (by omega)).trans d10, (G6 _ (by omega) (by omega)).trans d14⟩
set_option maxRecDepth 8000 in
theorem i118 (ha : M.1 a = some (.inr (11, mm_df 11))) (hm : M.2 = (n, w)) (han : a < n) : mm_R S (d + 3) 118 0 (mm_en 118 [.ref a]) [] M (fun v M' => v = none ∧ M'.2 = (n + 71, w + 2629) ∧ (∀ k, k < n → k ≠ a → M'.1 k = M.1 k) ∧ M'.1 a = some (.inr (11, [.ref n, .ref (n + 1), .ref (n + 3), .ref (n + 6), .ref (n + 28), .ref (n + 33), .ref (n + 40), .ref (n + 47), .ref (n + 49), .ref (n + 51), .ref (n + 53), .ref (n + 58)])) ∧ M'.1 n = some (.inl (2, 6, .inr (.inr (.inr (.inr (va_up (va_up (va_up (va_up (va_up (va_up (fun _ => none) 0 (some (n + 59))) 1 (some (n + 61))) 2 (some (n + 63))) 3 (some (n + 65))) 4 (some (n + 67))) 5 (some (n + 69)))))))) ∧ M'.1 (n + 1) = some (.inr (0, [.ref (n + 2)])) ∧ M'.1 (n + 2) = some (.inl (0, 16, .inl (fun _ => 0))) ∧ M'.1 (n + 3) = some (.inr (5, [.ref (n + 4), .ref (n + 5), .int 0])) ∧ M'.1 (n + 4) = some (.inl (0, 24, .inl (fun _ => 0))) ∧ M'.1 (n + 5) = some (.inl (0, 24, .inl (fun _ => 0))) ∧ M'.1 (n + 6) = some (.inr (4, [.ref (n + 7), .ref (n + 8), .ref (n + 9)])) ∧ M'.1 (n + 7) = some (.inl (3, 6, .inr (.inr (.inr (.inr (va_up (va_up (va_up (va_up (va_up (va_up (fun _ => none) 0 (some (n + 10))) 1 (some (n + 13))) 2 (some (n + 16))) 3 (some (n + 19))) 4 (some (n + 22))) 5 (some (n + 25)))))))) ∧ M'.1 (n + 8) = some (.inl (0, 6, .inl (fun _ => 0))) ∧ M'.1 (n + 9) = some (.inl (0, 8, .inl (fun _ => 0))) ∧ M'.1 (n + 10) = some (.inr (6, [.ref (n + 11), .ref (n + 12), .int 0, .int 0])) ∧ M'.1 (n + 11) = some (.inl (0, 24, .inl (fun _ => 0))) ∧ M'.1 (n + 12) = some (.inl (0, 32, .inl (fun _ => 0))) ∧ M'.1 (n + 13) = some (.inr (6, [.ref (n + 14), .ref (n + 15), .int 0, .int 0])) ∧ M'.1 (n + 14) = some (.inl (0, 24, .inl (fun _ => 0))) ∧ M'.1 (n + 15) = some (.inl (0, 32, .inl (fun _ => 0))) ∧ M'.1 (n + 16) = some (.inr (6, [.ref (n + 17), .ref (n + 18), .int 0, .int 0])) ∧ M'.1 (n + 17) = some (.inl (0, 24, .inl (fun _ => 0))) ∧ M'.1 (n + 18) = some (.inl (0, 32, .inl (fun _ => 0))) ∧ M'.1 (n + 19) = some (.inr (6, [.ref (n + 20), .ref (n + 21), .int 0, .int 0])) ∧ M'.1 (n + 20) = some (.inl (0, 24, .inl (fun _ => 0))) ∧ M'.1 (n + 21) = some (.inl (0, 32, .inl (fun _ => 0))) ∧ M'.1 (n + 22) = some (.inr (6, [.ref (n + 23), .ref (n + 24), .int 0, .int 0])) ∧ M'.1 (n + 23) = some (.inl (0, 24, .inl (fun _ => 0))) ∧ M'.1 (n + 24) = some (.inl (0, 32, .inl (fun _ => 0))) ∧ M'.1 (n + 25) = some (.inr (6, [.ref (n + 26), .ref (n + 27), .int 0, .int 0])) ∧ M'.1 (n + 26) = some (.inl (0, 24, .inl (fun _ => 0))) ∧ M'.1 (n + 27) = some (.inl (0, 32, .inl (fun _ => 0))) ∧ M'.1 (n + 28) = some (.inr (7, [.ref (n + 29), .ref (n + 31)])) ∧ M'.1 (n + 29) = some (.inr (0, [.ref (n + 30)])) ∧ M'.1 (n + 30) = some (.inl (0, 16, .inl (fun _ => 0))) ∧ M'.1 (n + 31) = some (.inr (0, [.ref (n + 32)])) ∧ M'.1 (n + 32) = some (.inl (0, 16, .inl (fun _ => 0))) ∧ M'.1 (n + 33) = some (.inr (1, [.ref (n + 34), .ref (n + 35), .ref (n + 36), .ref (n + 37), .ref (n + 38), .ref (n + 39), .int 0, .int 0, .int 0, .int 0])) ∧ M'.1 (n + 34) = some (.inl (0, 17, .inl (fun _ => 0))) ∧ M'.1 (n + 35) = some (.inl (0, 14, .inl (fun _ => 0))) ∧ M'.1 (n + 36) = some (.inl (0, 14, .inl (fun _ => 0))) ∧ M'.1 (n + 37) = some (.inl (0, 14, .inl (fun _ => 0))) ∧ M'.1 (n + 38) = some (.inl (0, 14, .inl (fun _ => 0))) ∧ M'.1 (n + 39) = some (.inl (0, 14, .inl (fun _ => 0))) ∧ M'.1 (n + 40) = some (.inr (2, [.ref (n + 41), .ref (n + 42), .ref (n + 43), .ref (n + 44), .ref (n + 45)])) ∧ M'.1 (n + 41) = some (.inl (0, 17, .inl (fun _ => 0))) ∧ M'.1 (n + 42) = some (.inl (0, 17, .inl (fun _ => 0))) ∧ M'.1 (n + 43) = some (.inl (0, 17, .inl (fun _ => 0))) ∧ M'.1 (n + 44) = some (.inl (0, 17, .inl (fun _ => 0))) ∧ M'.1 (n + 45) = some (.inr (0, [.ref (n + 46)])) ∧ M'.1 (n + 46) = some (.inl (0, 16, .inl (fun _ => 0))) ∧ M'.1 (n + 47) = some (.inr (3, [.ref (n + 48), .int 0])) ∧ M'.1 (n + 48) = some (.inl (0, 256, .inl (fun _ => 0))) ∧ M'.1 (n + 49) = some (.inr (3, [.ref (n + 50), .int 0])) ∧ M'.1 (n + 50) = some (.inl (0, 256, .inl (fun _ => 0))) ∧ M'.1 (n + 51) = some (.inr (8, [.ref (n + 52), .int 0])) ∧ M'.1 (n + 52) = some (.inl (0, 400, .inl (fun _ => 0))) ∧ M'.1 (n + 53) = some (.inr (10, [.ref (n + 54), .ref (n + 56), .ref (n + 57), .int 0, .int 0])) ∧ M'.1 (n + 54) = some (.inr (8, [.ref (n + 55), .int 0])) ∧ M'.1 (n + 55) = some (.inl (0, 400, .inl (fun _ => 0))) ∧ M'.1 (n + 56) = some (.inl (0, 256, .inl (fun _ => 0))) ∧ M'.1 (n + 57) = some (.inl (0, 256, .inl (fun _ => 0))) ∧ M'.1 (n + 58) = some (.inr (9, [.int 0, .int 0, .int 0, .int 0, .int 0, .int 0, .int 0, .int 0, .int 0, .int 0])) ∧ M'.1 (n + 59) = some (.inr (0, [.ref (n + 60)])) ∧ M'.1 (n + 60) = some (.inl (0, 16, .inl (fun _ => 0))) ∧ M'.1 (n + 61) = some (.inr (0, [.ref (n + 62)])) ∧ M'.1 (n + 62) = some (.inl (0, 16, .inl (fun _ => 0))) ∧ M'.1 (n + 63) = some (.inr (0, [.ref (n + 64)])) ∧ M'.1 (n + 64) = some (.inl (0, 16, .inl (fun _ => 0))) ∧ M'.1 (n + 65) = some (.inr (0, [.ref (n + 66)])) ∧ M'.1 (n + 66) = some (.inl (0, 16, .inl (fun _ => 0))) ∧ M'.1 (n + 67) = some (.inr (0, [.ref (n + 68)])) ∧ M'.1 (n + 68) = some (.inl (0, 16, .inl (fun _ => 0))) ∧ M'.1 (n + 69) = some (.inr (0, [.ref (n + 70)])) ∧ M'.1 (n + 70) = some (.inl (0, 16, .inl (fun _ => 0)))) := by
  show mm_R S (d + 3) 118 0 [some (.ref a), none] [] M _
  refine R_aload_n (q := 1) rfl rfl rfl ?_
  refine R_objinit (q := 4) rfl rfl (by decide +kernel) rfl (by omega) (Nat.le_of_ble_eq_true rfl) ?_
  refine R_aload_n (q := 5) rfl rfl rfl ?_
  refine R_bipush (q := 7) (v := nI 6) rfl rfl (by decide) ?_
  refine R_anewq (q := 10) rfl rfl rfl (by decide) hm (fun M5 e5 c5 f5 => ?_)
  have h5 : M5.1 a = some (.inr (11, [.null, .null, .null, .null, .null, .null, .null, .null, .null, .null, .null, .null])) := (f5 _ (by omega)).trans ha
  have m5 : M5.2 = (n + 1, w + 6) := e5
  have d5 : M5.1 n = some (.inl (2, 6, .inr (.inr (.inr (.inr (fun _ => none)))))) := c5
  refine R_putq (q := 13) rfl rfl rfl h5 (Nat.le_of_ble_eq_true rfl) rfl (fun _ => ⟨rfl, rfl⟩) rfl (fun M6 e6 c6 f6 => ?_)
  dsimp only [List.set] at c6
  have h6 : M6.1 a = some (.inr (11, [.ref n, .null, .null, .null, .null, .null, .null, .null, .null, .null, .null, .null])) := c6
  have m6 : M6.2 = (n + 1, w + 6) := e6.trans m5
  have a6 : M6.1 n = some (.inl (2, 6, .inr (.inr (.inr (.inr (fun _ => none)))))) := (f6 _ (by omega)).trans d5
  refine R_aload_n (q := 14) rfl rfl rfl ?_
  refine R_newq (q := 17) rfl rfl rfl m6 (fun M8 e8 c8 f8 => ?_)
  have h8 : M8.1 a = some (.inr (11, [.ref n, .null, .null, .null, .null, .null, .null, .null, .null, .null, .null, .null])) := (f8 _ (by omega)).trans h6
  have m8 : M8.2 = (n + 2, w + 7) := e8
  have a8 : M8.1 n = some (.inl (2, 6, .inr (.inr (.inr (.inr (fun _ => none)))))) := (f8 _ (by omega)).trans a6
  refine R_dupa (q := 18) rfl rfl ?_
  refine R_calli0 (q := 21) rfl rfl rfl rfl (Nat.le_of_ble_eq_true rfl) ?_
  refine R_mono (i1 c8 m8 (by omega)) (fun v10 M10 hr10 => ?_)
  obtain ⟨rfl, e10, f10, g10_0, g10_1⟩ := hr10
  dsimp only [Option.toList, List.nil_append]
  have h10 : M10.1 a = some (.inr (11, [.ref n, .null, .null, .null, .null, .null, .null, .null, .null, .null, .null, .null])) := (f10 _ (by omega) (by omega)).trans h8
  have m10 : M10.2 = (n + 3, w + 23) := e10
  have a10 : M10.1 n = some (.inl (2, 6, .inr (.inr (.inr (.inr (fun _ => none)))))) := (f10 _ (by omega) (by omega)).trans a8
  refine R_putq (q := 24) rfl rfl rfl h10 (Nat.le_of_ble_eq_true rfl) rfl (fun _ => ⟨rfl, rfl⟩) rfl (fun M11 e11 c11 f11 => ?_)
  dsimp only [List.set] at c11
  have h11 : M11.1 a = some (.inr (11, [.ref n, .ref (n + 1), .null, .null, .null, .null, .null, .null, .null, .null, .null, .null])) := c11
  have m11 : M11.2 = (n + 3, w + 23) := e11.trans m10
  have a11 : M11.1 n = some (.inl (2, 6, .inr (.inr (.inr (.inr (fun _ => none)))))) := (f11 _ (by omega)).trans a10
  refine R_aload_n (q := 25) rfl rfl rfl ?_
  refine R_newq (q := 28) rfl rfl rfl m11 (fun M13 e13 c13 f13 => ?_)
  have h13 : M13.1 a = some (.inr (11, [.ref n, .ref (n + 1), .null, .null, .null, .null, .null, .null, .null, .null, .null, .null])) := (f13 _ (by omega)).trans h11
  have m13 : M13.2 = (n + 4, w + 26) := e13
  have a13 : M13.1 n = some (.inl (2, 6, .inr (.inr (.inr (.inr (fun _ => none)))))) := (f13 _ (by omega)).trans a11
  refine R_dupa (q := 29) rfl rfl ?_
  refine R_calli0 (q := 32) rfl rfl rfl rfl (Nat.le_of_ble_eq_true rfl) ?_
  refine R_mono (i67 c13 m13 (by omega)) (fun v15 M15 hr15 => ?_)
  obtain ⟨rfl, e15, f15, g15_0, g15_1, g15_2⟩ := hr15
  dsimp only [Option.toList, List.nil_append]
  have h15 : M15.1 a = some (.inr (11, [.ref n, .ref (n + 1), .null, .null, .null, .null, .null, .null, .null, .null, .null, .null])) := (f15 _ (by omega) (by omega)).trans h13
  have m15 : M15.2 = (n + 6, w + 74) := e15
  have a15 : M15.1 n = some (.inl (2, 6, .inr (.inr (.inr (.inr (fun _ => none)))))) := (f15 _ (by omega) (by omega)).trans a13
  refine R_putq (q := 35) rfl rfl rfl h15 (Nat.le_of_ble_eq_true rfl) rfl (fun _ => ⟨rfl, rfl⟩) rfl (fun M16 e16 c16 f16 => ?_)
  dsimp only [List.set] at c16
  have h16 : M16.1 a = some (.inr (11, [.ref n, .ref (n + 1), .ref (n + 3), .null, .null, .null, .null, .null, .null, .null, .null, .null])) := c16
  have m16 : M16.2 = (n + 6, w + 74) := e16.trans m15
  have a16 : M16.1 n = some (.inl (2, 6, .inr (.inr (.inr (.inr (fun _ => none)))))) := (f16 _ (by omega)).trans a15
  refine R_aload_n (q := 36) rfl rfl rfl ?_
  refine R_newq (q := 39) rfl rfl rfl m16 (fun M18 e18 c18 f18 => ?_)
  have h18 : M18.1 a = some (.inr (11, [.ref n, .ref (n + 1), .ref (n + 3), .null, .null, .null, .null, .null, .null, .null, .null, .null])) := (f18 _ (by omega)).trans h16
  have m18 : M18.2 = (n + 7, w + 77) := e18
  have a18 : M18.1 n = some (.inl (2, 6, .inr (.inr (.inr (.inr (fun _ => none)))))) := (f18 _ (by omega)).trans a16
  refine R_dupa (q := 40) rfl rfl ?_
  refine R_calli0 (q := 43) rfl rfl rfl rfl (Nat.le_of_ble_eq_true rfl) ?_
  refine R_mono (i53 c18 m18 (by omega)) (fun v20 M20 hr20 => ?_)
  obtain ⟨rfl, e20, f20, g20_0, g20_1, g20_2, g20_3, g20_4, g20_5, g20_6, g20_7, g20_8, g20_9, g20_10, g20_11, g20_12, g20_13, g20_14, g20_15, g20_16, g20_17, g20_18, g20_19, g20_20, g20_21⟩ := hr20
  dsimp only [Option.toList, List.nil_append]
  have h20 : M20.1 a = some (.inr (11, [.ref n, .ref (n + 1), .ref (n + 3), .null, .null, .null, .null, .null, .null, .null, .null, .null])) := (f20 _ (by omega) (by omega)).trans h18
  have m20 : M20.2 = (n + 28, w + 457) := e20
  have a20 : M20.1 n = some (.inl (2, 6, .inr (.inr (.inr (.inr (fun _ => none)))))) := (f20 _ (by omega) (by omega)).trans a18
  refine R_putq (q := 46) rfl rfl rfl h20 (Nat.le_of_ble_eq_true rfl) rfl (fun _ => ⟨rfl, rfl⟩) rfl (fun M21 e21 c21 f21 => ?_)
  dsimp only [List.set] at c21
  have h21 : M21.1 a = some (.inr (11, [.ref n, .ref (n + 1), .ref (n + 3), .ref (n + 6), .null, .null, .null, .null, .null, .null, .null, .null])) := c21
  have m21 : M21.2 = (n + 28, w + 457) := e21.trans m20
  have a21 : M21.1 n = some (.inl (2, 6, .inr (.inr (.inr (.inr (fun _ => none)))))) := (f21 _ (by omega)).trans a20
  refine R_aload_n (q := 47) rfl rfl rfl ?_
  refine R_newq (q := 50) rfl rfl rfl m21 (fun M23 e23 c23 f23 => ?_)
  have h23 : M23.1 a = some (.inr (11, [.ref n, .ref (n + 1), .ref (n + 3), .ref (n + 6), .null, .null, .null, .null, .null, .null, .null, .null])) := (f23 _ (by omega)).trans h21
  have m23 : M23.2 = (n + 29, w + 459) := e23
  have a23 : M23.1 n = some (.inl (2, 6, .inr (.inr (.inr (.inr (fun _ => none)))))) := (f23 _ (by omega)).trans a21
  refine R_dupa (q := 51) rfl rfl ?_
  refine R_calli0 (q := 54) rfl rfl rfl rfl (Nat.le_of_ble_eq_true rfl) ?_
  refine R_mono (i83 c23 m23 (by omega)) (fun v25 M25 hr25 => ?_)
  obtain ⟨rfl, e25, f25, g25_0, g25_1, g25_2, g25_3, g25_4⟩ := hr25
  dsimp only [Option.toList, List.nil_append]
  have h25 : M25.1 a = some (.inr (11, [.ref n, .ref (n + 1), .ref (n + 3), .ref (n + 6), .null, .null, .null, .null, .null, .null, .null, .null])) := (f25 _ (by omega) (by omega)).trans h23
  have m25 : M25.2 = (n + 33, w + 493) := e25
  have a25 : M25.1 n = some (.inl (2, 6, .inr (.inr (.inr (.inr (fun _ => none)))))) := (f25 _ (by omega) (by omega)).trans a23
  refine R_putq (q := 57) rfl rfl rfl h25 (Nat.le_of_ble_eq_true rfl) rfl (fun _ => ⟨rfl, rfl⟩) rfl (fun M26 e26 c26 f26 => ?_)
  dsimp only [List.set] at c26
  have h26 : M26.1 a = some (.inr (11, [.ref n, .ref (n + 1), .ref (n + 3), .ref (n + 6), .ref (n + 28), .null, .null, .null, .null, .null, .null, .null])) := c26
  have m26 : M26.2 = (n + 33, w + 493) := e26.trans m25
  have a26 : M26.1 n = some (.inl (2, 6, .inr (.inr (.inr (.inr (fun _ => none)))))) := (f26 _ (by omega)).trans a25
  refine R_aload_n (q := 58) rfl rfl rfl ?_
  refine R_newq (q := 61) rfl rfl rfl m26 (fun M28 e28 c28 f28 => ?_)
  have h28 : M28.1 a = some (.inr (11, [.ref n, .ref (n + 1), .ref (n + 3), .ref (n + 6), .ref (n + 28), .null, .null, .null, .null, .null, .null, .null])) := (f28 _ (by omega)).trans h26
  have m28 : M28.2 = (n + 34, w + 503) := e28
  have a28 : M28.1 n = some (.inl (2, 6, .inr (.inr (.inr (.inr (fun _ => none)))))) := (f28 _ (by omega)).trans a26
  refine R_dupa (q := 62) rfl rfl ?_
  refine R_calli0 (q := 65) rfl rfl rfl rfl (Nat.le_of_ble_eq_true rfl) ?_
  refine R_mono (i18 c28 m28 (by omega)) (fun v30 M30 hr30 => ?_)
  obtain ⟨rfl, e30, f30, g30_0, g30_1, g30_2, g30_3, g30_4, g30_5, g30_6⟩ := hr30
  dsimp only [Option.toList, List.nil_append]
  have h30 : M30.1 a = some (.inr (11, [.ref n, .ref (n + 1), .ref (n + 3), .ref (n + 6), .ref (n + 28), .null, .null, .null, .null, .null, .null, .null])) := (f30 _ (by omega) (by omega)).trans h28
  have m30 : M30.2 = (n + 40, w + 590) := e30
  have a30 : M30.1 n = some (.inl (2, 6, .inr (.inr (.inr (.inr (fun _ => none)))))) := (f30 _ (by omega) (by omega)).trans a28
  refine R_putq (q := 68) rfl rfl rfl h30 (Nat.le_of_ble_eq_true rfl) rfl (fun _ => ⟨rfl, rfl⟩) rfl (fun M31 e31 c31 f31 => ?_)
  dsimp only [List.set] at c31
  have h31 : M31.1 a = some (.inr (11, [.ref n, .ref (n + 1), .ref (n + 3), .ref (n + 6), .ref (n + 28), .ref (n + 33), .null, .null, .null, .null, .null, .null])) := c31
  have m31 : M31.2 = (n + 40, w + 590) := e31.trans m30
  have a31 : M31.1 n = some (.inl (2, 6, .inr (.inr (.inr (.inr (fun _ => none)))))) := (f31 _ (by omega)).trans a30
  refine R_aload_n (q := 69) rfl rfl rfl ?_
  refine R_newq (q := 72) rfl rfl rfl m31 (fun M33 e33 c33 f33 => ?_)
  have h33 : M33.1 a = some (.inr (11, [.ref n, .ref (n + 1), .ref (n + 3), .ref (n + 6), .ref (n + 28), .ref (n + 33), .null, .null, .null, .null, .null, .null])) := (f33 _ (by omega)).trans h31
  have m33 : M33.2 = (n + 41, w + 595) := e33
  have a33 : M33.1 n = some (.inl (2, 6, .inr (.inr (.inr (.inr (fun _ => none)))))) := (f33 _ (by omega)).trans a31
  refine R_dupa (q := 73) rfl rfl ?_
  refine R_calli0 (q := 76) rfl rfl rfl rfl (Nat.le_of_ble_eq_true rfl) ?_
  refine R_mono (i39 c33 m33 (by omega)) (fun v35 M35 hr35 => ?_)
  obtain ⟨rfl, e35, f35, g35_0, g35_1, g35_2, g35_3, g35_4, g35_5, g35_6⟩ := hr35
  dsimp only [Option.toList, List.nil_append]
  have h35 : M35.1 a = some (.inr (11, [.ref n, .ref (n + 1), .ref (n + 3), .ref (n + 6), .ref (n + 28), .ref (n + 33), .null, .null, .null, .null, .null, .null])) := (f35 _ (by omega) (by omega)).trans h33
  have m35 : M35.2 = (n + 47, w + 680) := e35
  have a35 : M35.1 n = some (.inl (2, 6, .inr (.inr (.inr (.inr (fun _ => none)))))) := (f35 _ (by omega) (by omega)).trans a33
  refine R_putq (q := 79) rfl rfl rfl h35 (Nat.le_of_ble_eq_true rfl) rfl (fun _ => ⟨rfl, rfl⟩) rfl (fun M36 e36 c36 f36 => ?_)
  dsimp only [List.set] at c36
  have h36 : M36.1 a = some (.inr (11, [.ref n, .ref (n + 1), .ref (n + 3), .ref (n + 6), .ref (n + 28), .ref (n + 33), .ref (n + 40), .null, .null, .null, .null, .null])) := c36
  have m36 : M36.2 = (n + 47, w + 680) := e36.trans m35
  have a36 : M36.1 n = some (.inl (2, 6, .inr (.inr (.inr (.inr (fun _ => none)))))) := (f36 _ (by omega)).trans a35
  refine R_aload_n (q := 80) rfl rfl rfl ?_
  refine R_newq (q := 83) rfl rfl rfl m36 (fun M38 e38 c38 f38 => ?_)
  have h38 : M38.1 a = some (.inr (11, [.ref n, .ref (n + 1), .ref (n + 3), .ref (n + 6), .ref (n + 28), .ref (n + 33), .ref (n + 40), .null, .null, .null, .null, .null])) := (f38 _ (by omega)).trans h36
  have m38 : M38.2 = (n + 48, w + 682) := e38
  have a38 : M38.1 n = some (.inl (2, 6, .inr (.inr (.inr (.inr (fun _ => none)))))) := (f38 _ (by omega)).trans a36
  refine R_dupa (q := 84) rfl rfl ?_
  refine R_calli0 (q := 87) rfl rfl rfl rfl (Nat.le_of_ble_eq_true rfl) ?_
  refine R_mono (i48 c38 m38 (by omega)) (fun v40 M40 hr40 => ?_)
  obtain ⟨rfl, e40, f40, g40_0, g40_1⟩ := hr40
  dsimp only [Option.toList, List.nil_append]
  have h40 : M40.1 a = some (.inr (11, [.ref n, .ref (n + 1), .ref (n + 3), .ref (n + 6), .ref (n + 28), .ref (n + 33), .ref (n + 40), .null, .null, .null, .null, .null])) := (f40 _ (by omega) (by omega)).trans h38
  have m40 : M40.2 = (n + 49, w + 938) := e40
  have a40 : M40.1 n = some (.inl (2, 6, .inr (.inr (.inr (.inr (fun _ => none)))))) := (f40 _ (by omega) (by omega)).trans a38
  refine R_putq (q := 90) rfl rfl rfl h40 (Nat.le_of_ble_eq_true rfl) rfl (fun _ => ⟨rfl, rfl⟩) rfl (fun M41 e41 c41 f41 => ?_)
  dsimp only [List.set] at c41
  have h41 : M41.1 a = some (.inr (11, [.ref n, .ref (n + 1), .ref (n + 3), .ref (n + 6), .ref (n + 28), .ref (n + 33), .ref (n + 40), .ref (n + 47), .null, .null, .null, .null])) := c41
  have m41 : M41.2 = (n + 49, w + 938) := e41.trans m40
  have a41 : M41.1 n = some (.inl (2, 6, .inr (.inr (.inr (.inr (fun _ => none)))))) := (f41 _ (by omega)).trans a40
  refine R_aload_n (q := 91) rfl rfl rfl ?_
  refine R_newq (q := 94) rfl rfl rfl m41 (fun M43 e43 c43 f43 => ?_)
  have h43 : M43.1 a = some (.inr (11, [.ref n, .ref (n + 1), .ref (n + 3), .ref (n + 6), .ref (n + 28), .ref (n + 33), .ref (n + 40), .ref (n + 47), .null, .null, .null, .null])) := (f43 _ (by omega)).trans h41
  have m43 : M43.2 = (n + 50, w + 940) := e43
  have a43 : M43.1 n = some (.inl (2, 6, .inr (.inr (.inr (.inr (fun _ => none)))))) := (f43 _ (by omega)).trans a41
  refine R_dupa (q := 95) rfl rfl ?_
  refine R_calli0 (q := 98) rfl rfl rfl rfl (Nat.le_of_ble_eq_true rfl) ?_
  refine R_mono (i48 c43 m43 (by omega)) (fun v45 M45 hr45 => ?_)
  obtain ⟨rfl, e45, f45, g45_0, g45_1⟩ := hr45
  dsimp only [Option.toList, List.nil_append]
  have h45 : M45.1 a = some (.inr (11, [.ref n, .ref (n + 1), .ref (n + 3), .ref (n + 6), .ref (n + 28), .ref (n + 33), .ref (n + 40), .ref (n + 47), .null, .null, .null, .null])) := (f45 _ (by omega) (by omega)).trans h43
  have m45 : M45.2 = (n + 51, w + 1196) := e45
  have a45 : M45.1 n = some (.inl (2, 6, .inr (.inr (.inr (.inr (fun _ => none)))))) := (f45 _ (by omega) (by omega)).trans a43
  refine R_putq (q := 101) rfl rfl rfl h45 (Nat.le_of_ble_eq_true rfl) rfl (fun _ => ⟨rfl, rfl⟩) rfl (fun M46 e46 c46 f46 => ?_)
  dsimp only [List.set] at c46
  have h46 : M46.1 a = some (.inr (11, [.ref n, .ref (n + 1), .ref (n + 3), .ref (n + 6), .ref (n + 28), .ref (n + 33), .ref (n + 40), .ref (n + 47), .ref (n + 49), .null, .null, .null])) := c46
  have m46 : M46.2 = (n + 51, w + 1196) := e46.trans m45
  have a46 : M46.1 n = some (.inl (2, 6, .inr (.inr (.inr (.inr (fun _ => none)))))) := (f46 _ (by omega)).trans a45
  refine R_aload_n (q := 102) rfl rfl rfl ?_
  refine R_newq (q := 105) rfl rfl rfl m46 (fun M48 e48 c48 f48 => ?_)
  have h48 : M48.1 a = some (.inr (11, [.ref n, .ref (n + 1), .ref (n + 3), .ref (n + 6), .ref (n + 28), .ref (n + 33), .ref (n + 40), .ref (n + 47), .ref (n + 49), .null, .null, .null])) := (f48 _ (by omega)).trans h46
  have m48 : M48.2 = (n + 52, w + 1198) := e48
  have a48 : M48.1 n = some (.inl (2, 6, .inr (.inr (.inr (.inr (fun _ => none)))))) := (f48 _ (by omega)).trans a46
  refine R_dupa (q := 106) rfl rfl ?_
  refine R_calli0 (q := 109) rfl rfl rfl rfl (Nat.le_of_ble_eq_true rfl) ?_
  refine R_mono (i91 c48 m48 (by omega)) (fun v50 M50 hr50 => ?_)
  obtain ⟨rfl, e50, f50, g50_0, g50_1⟩ := hr50
  dsimp only [Option.toList, List.nil_append]
  have h50 : M50.1 a = some (.inr (11, [.ref n, .ref (n + 1), .ref (n + 3), .ref (n + 6), .ref (n + 28), .ref (n + 33), .ref (n + 40), .ref (n + 47), .ref (n + 49), .null, .null, .null])) := (f50 _ (by omega) (by omega)).trans h48
  have m50 : M50.2 = (n + 53, w + 1598) := e50
  have a50 : M50.1 n = some (.inl (2, 6, .inr (.inr (.inr (.inr (fun _ => none)))))) := (f50 _ (by omega) (by omega)).trans a48
  refine R_putq (q := 112) rfl rfl rfl h50 (Nat.le_of_ble_eq_true rfl) rfl (fun _ => ⟨rfl, rfl⟩) rfl (fun M51 e51 c51 f51 => ?_)
  dsimp only [List.set] at c51
  have h51 : M51.1 a = some (.inr (11, [.ref n, .ref (n + 1), .ref (n + 3), .ref (n + 6), .ref (n + 28), .ref (n + 33), .ref (n + 40), .ref (n + 47), .ref (n + 49), .ref (n + 51), .null, .null])) := c51
  have m51 : M51.2 = (n + 53, w + 1598) := e51.trans m50
  have a51 : M51.1 n = some (.inl (2, 6, .inr (.inr (.inr (.inr (fun _ => none)))))) := (f51 _ (by omega)).trans a50
  refine R_aload_n (q := 113) rfl rfl rfl ?_
  refine R_newq (q := 116) rfl rfl rfl m51 (fun M53 e53 c53 f53 => ?_)
  have h53 : M53.1 a = some (.inr (11, [.ref n, .ref (n + 1), .ref (n + 3), .ref (n + 6), .ref (n + 28), .ref (n + 33), .ref (n + 40), .ref (n + 47), .ref (n + 49), .ref (n + 51), .null, .null])) := (f53 _ (by omega)).trans h51
  have m53 : M53.2 = (n + 54, w + 1603) := e53
  have a53 : M53.1 n = some (.inl (2, 6, .inr (.inr (.inr (.inr (fun _ => none)))))) := (f53 _ (by omega)).trans a51
  refine R_dupa (q := 117) rfl rfl ?_
  refine R_calli0 (q := 120) rfl rfl rfl rfl (Nat.le_of_ble_eq_true rfl) ?_
  refine R_mono (i106 c53 m53 (by omega)) (fun v55 M55 hr55 => ?_)
  obtain ⟨rfl, e55, f55, g55_0, g55_1, g55_2, g55_3, g55_4⟩ := hr55
  dsimp only [Option.toList, List.nil_append]
  have h55 : M55.1 a = some (.inr (11, [.ref n, .ref (n + 1), .ref (n + 3), .ref (n + 6), .ref (n + 28), .ref (n + 33), .ref (n + 40), .ref (n + 47), .ref (n + 49), .ref (n + 51), .null, .null])) := (f55 _ (by omega) (by omega)).trans h53
  have m55 : M55.2 = (n + 58, w + 2517) := e55
  have a55 : M55.1 n = some (.inl (2, 6, .inr (.inr (.inr (.inr (fun _ => none)))))) := (f55 _ (by omega) (by omega)).trans a53
  refine R_putq (q := 123) rfl rfl rfl h55 (Nat.le_of_ble_eq_true rfl) rfl (fun _ => ⟨rfl, rfl⟩) rfl (fun M56 e56 c56 f56 => ?_)
  dsimp only [List.set] at c56
  have h56 : M56.1 a = some (.inr (11, [.ref n, .ref (n + 1), .ref (n + 3), .ref (n + 6), .ref (n + 28), .ref (n + 33), .ref (n + 40), .ref (n + 47), .ref (n + 49), .ref (n + 51), .ref (n + 53), .null])) := c56
  have m56 : M56.2 = (n + 58, w + 2517) := e56.trans m55
  have a56 : M56.1 n = some (.inl (2, 6, .inr (.inr (.inr (.inr (fun _ => none)))))) := (f56 _ (by omega)).trans a55
  refine R_aload_n (q := 124) rfl rfl rfl ?_
  refine R_newq (q := 127) rfl rfl rfl m56 (fun M58 e58 c58 f58 => ?_)
  have h58 : M58.1 a = some (.inr (11, [.ref n, .ref (n + 1), .ref (n + 3), .ref (n + 6), .ref (n + 28), .ref (n + 33), .ref (n + 40), .ref (n + 47), .ref (n + 49), .ref (n + 51), .ref (n + 53), .null])) := (f58 _ (by omega)).trans h56
  have m58 : M58.2 = (n + 59, w + 2527) := e58
  have a58 : M58.1 n = some (.inl (2, 6, .inr (.inr (.inr (.inr (fun _ => none)))))) := (f58 _ (by omega)).trans a56
  refine R_dupa (q := 128) rfl rfl ?_
  refine R_calli0 (q := 131) rfl rfl rfl rfl (Nat.le_of_ble_eq_true rfl) ?_
  refine R_mono (i98 c58 m58 (by omega)) (fun v60 M60 hr60 => ?_)
  obtain ⟨rfl, e60, f60, g60_0⟩ := hr60
  dsimp only [Option.toList, List.nil_append]
  have h60 : M60.1 a = some (.inr (11, [.ref n, .ref (n + 1), .ref (n + 3), .ref (n + 6), .ref (n + 28), .ref (n + 33), .ref (n + 40), .ref (n + 47), .ref (n + 49), .ref (n + 51), .ref (n + 53), .null])) := (f60 _ (by omega) (by omega)).trans h58
  have m60 : M60.2 = (n + 59, w + 2527) := e60
  have a60 : M60.1 n = some (.inl (2, 6, .inr (.inr (.inr (.inr (fun _ => none)))))) := (f60 _ (by omega) (by omega)).trans a58
  refine R_putq (q := 134) rfl rfl rfl h60 (Nat.le_of_ble_eq_true rfl) rfl (fun _ => ⟨rfl, rfl⟩) rfl (fun M61 e61 c61 f61 => ?_)
  dsimp only [List.set] at c61
  have h61 : M61.1 a = some (.inr (11, [.ref n, .ref (n + 1), .ref (n + 3), .ref (n + 6), .ref (n + 28), .ref (n + 33), .ref (n + 40), .ref (n + 47), .ref (n + 49), .ref (n + 51), .ref (n + 53), .ref (n + 58)])) := c61
  have m61 : M61.2 = (n + 59, w + 2527) := e61.trans m60
  have a61 : M61.1 n = some (.inl (2, 6, .inr (.inr (.inr (.inr (fun _ => none)))))) := (f61 _ (by omega)).trans a60
  refine R_iconst (q := 135) (v := nI 0) rfl rfl (by decide) ?_
  refine R_istore_n (q := 136) rfl rfl (Nat.le_of_ble_eq_true rfl) rfl ?_
  dsimp only [List.set]
  refine R_iload_n (q := 137) rfl rfl rfl ?_
  refine R_bipush (q := 139) (v := nI 6) rfl rfl (by decide) ?_
  refine R_icmp_ge (q := 142) (t := 161) rfl rfl rfl (fun h => absurd h (by decide)) (fun _ => ?_)
  refine R_aload_n (q := 143) rfl rfl rfl ?_
  refine R_getf (q := 146) rfl rfl rfl h61 rfl ?_
  refine R_iload_n (q := 147) rfl rfl rfl ?_
  refine R_newq (q := 150) rfl rfl rfl m61 (fun M70 e70 c70 f70 => ?_)
  have h70 : M70.1 a = some (.inr (11, [.ref n, .ref (n + 1), .ref (n + 3), .ref (n + 6), .ref (n + 28), .ref (n + 33), .ref (n + 40), .ref (n + 47), .ref (n + 49), .ref (n + 51), .ref (n + 53), .ref (n + 58)])) := (f70 _ (by omega)).trans h61
  have m70 : M70.2 = (n + 60, w + 2528) := e70
  have a70 : M70.1 n = some (.inl (2, 6, .inr (.inr (.inr (.inr (fun _ => none)))))) := (f70 _ (by omega)).trans a61
  refine R_dupa (q := 151) rfl rfl ?_
  refine R_calli0 (q := 154) rfl rfl rfl rfl (Nat.le_of_ble_eq_true rfl) ?_
  refine R_mono (i1 c70 m70 (by omega)) (fun v72 M72 hr72 => ?_)
  obtain ⟨rfl, e72, f72, g72_0, g72_1⟩ := hr72
  dsimp only [Option.toList, List.nil_append]
  have h72 : M72.1 a = some (.inr (11, [.ref n, .ref (n + 1), .ref (n + 3), .ref (n + 6), .ref (n + 28), .ref (n + 33), .ref (n + 40), .ref (n + 47), .ref (n + 49), .ref (n + 51), .ref (n + 53), .ref (n + 58)])) := (f72 _ (by omega) (by omega)).trans h70
  have m72 : M72.2 = (n + 61, w + 2544) := e72
  have a72 : M72.1 n = some (.inl (2, 6, .inr (.inr (.inr (.inr (fun _ => none)))))) := (f72 _ (by omega) (by omega)).trans a70
  refine R_aastq (q := 155) rfl rfl a72 g72_0 rfl (in_nI (by decide) (by decide)) (fun M73 e73 c73 f73 => ?_)
  have a73 : M73.1 n = some (.inl (2, 6, .inr (.inr (.inr (.inr (va_up (fun _ => none) 0 (some (n + 59)))))))) := c73
  have h73 : M73.1 a = some (.inr (11, [.ref n, .ref (n + 1), .ref (n + 3), .ref (n + 6), .ref (n + 28), .ref (n + 33), .ref (n + 40), .ref (n + 47), .ref (n + 49), .ref (n + 51), .ref (n + 53), .ref (n + 58)])) := (f73 _ (by omega)).trans h72
  have m73 : M73.2 = (n + 61, w + 2544) := e73.trans m72
  refine R_iinc (q := 158) rfl rfl rfl (nI_i1 0) rfl ?_
  dsimp only [List.set]
  refine R_goto (t := 136) rfl rfl ?_
  refine R_iload_n (q := 137) rfl rfl rfl ?_
  refine R_bipush (q := 139) (v := nI 6) rfl rfl (by decide) ?_
  refine R_icmp_ge (q := 142) (t := 161) rfl rfl rfl (fun h => absurd h (by decide)) (fun _ => ?_)
  refine R_aload_n (q := 143) rfl rfl rfl ?_
  refine R_getf (q := 146) rfl rfl rfl h73 rfl ?_
  refine R_iload_n (q := 147) rfl rfl rfl ?_
  refine R_newq (q := 150) rfl rfl rfl m73 (fun M82 e82 c82 f82 => ?_)
  have h82 : M82.1 a = some (.inr (11, [.ref n, .ref (n + 1), .ref (n + 3), .ref (n + 6), .ref (n + 28), .ref (n + 33), .ref (n + 40), .ref (n + 47), .ref (n + 49), .ref (n + 51), .ref (n + 53), .ref (n + 58)])) := (f82 _ (by omega)).trans h73
  have m82 : M82.2 = (n + 62, w + 2545) := e82
  have a82 : M82.1 n = some (.inl (2, 6, .inr (.inr (.inr (.inr (va_up (fun _ => none) 0 (some (n + 59)))))))) := (f82 _ (by omega)).trans a73
  refine R_dupa (q := 151) rfl rfl ?_
  refine R_calli0 (q := 154) rfl rfl rfl rfl (Nat.le_of_ble_eq_true rfl) ?_
  refine R_mono (i1 c82 m82 (by omega)) (fun v84 M84 hr84 => ?_)
  obtain ⟨rfl, e84, f84, g84_0, g84_1⟩ := hr84
  dsimp only [Option.toList, List.nil_append]
  have h84 : M84.1 a = some (.inr (11, [.ref n, .ref (n + 1), .ref (n + 3), .ref (n + 6), .ref (n + 28), .ref (n + 33), .ref (n + 40), .ref (n + 47), .ref (n + 49), .ref (n + 51), .ref (n + 53), .ref (n + 58)])) := (f84 _ (by omega) (by omega)).trans h82
  have m84 : M84.2 = (n + 63, w + 2561) := e84
  have a84 : M84.1 n = some (.inl (2, 6, .inr (.inr (.inr (.inr (va_up (fun _ => none) 0 (some (n + 59)))))))) := (f84 _ (by omega) (by omega)).trans a82
  refine R_aastq (q := 155) rfl rfl a84 g84_0 rfl (in_nI (by decide) (by decide)) (fun M85 e85 c85 f85 => ?_)
  have a85 : M85.1 n = some (.inl (2, 6, .inr (.inr (.inr (.inr (va_up (va_up (fun _ => none) 0 (some (n + 59))) 1 (some (n + 61)))))))) := c85
  have h85 : M85.1 a = some (.inr (11, [.ref n, .ref (n + 1), .ref (n + 3), .ref (n + 6), .ref (n + 28), .ref (n + 33), .ref (n + 40), .ref (n + 47), .ref (n + 49), .ref (n + 51), .ref (n + 53), .ref (n + 58)])) := (f85 _ (by omega)).trans h84
  have m85 : M85.2 = (n + 63, w + 2561) := e85.trans m84
  refine R_iinc (q := 158) rfl rfl rfl (nI_i1 1) rfl ?_
  dsimp only [List.set]
  refine R_goto (t := 136) rfl rfl ?_
  refine R_iload_n (q := 137) rfl rfl rfl ?_
  refine R_bipush (q := 139) (v := nI 6) rfl rfl (by decide) ?_
  refine R_icmp_ge (q := 142) (t := 161) rfl rfl rfl (fun h => absurd h (by decide)) (fun _ => ?_)
  refine R_aload_n (q := 143) rfl rfl rfl ?_
  refine R_getf (q := 146) rfl rfl rfl h85 rfl ?_
  refine R_iload_n (q := 147) rfl rfl rfl ?_
  refine R_newq (q := 150) rfl rfl rfl m85 (fun M94 e94 c94 f94 => ?_)
  have h94 : M94.1 a = some (.inr (11, [.ref n, .ref (n + 1), .ref (n + 3), .ref (n + 6), .ref (n + 28), .ref (n + 33), .ref (n + 40), .ref (n + 47), .ref (n + 49), .ref (n + 51), .ref (n + 53), .ref (n + 58)])) := (f94 _ (by omega)).trans h85
  have m94 : M94.2 = (n + 64, w + 2562) := e94
  have a94 : M94.1 n = some (.inl (2, 6, .inr (.inr (.inr (.inr (va_up (va_up (fun _ => none) 0 (some (n + 59))) 1 (some (n + 61)))))))) := (f94 _ (by omega)).trans a85
  refine R_dupa (q := 151) rfl rfl ?_
  refine R_calli0 (q := 154) rfl rfl rfl rfl (Nat.le_of_ble_eq_true rfl) ?_
  refine R_mono (i1 c94 m94 (by omega)) (fun v96 M96 hr96 => ?_)
  obtain ⟨rfl, e96, f96, g96_0, g96_1⟩ := hr96
  dsimp only [Option.toList, List.nil_append]
  have h96 : M96.1 a = some (.inr (11, [.ref n, .ref (n + 1), .ref (n + 3), .ref (n + 6), .ref (n + 28), .ref (n + 33), .ref (n + 40), .ref (n + 47), .ref (n + 49), .ref (n + 51), .ref (n + 53), .ref (n + 58)])) := (f96 _ (by omega) (by omega)).trans h94
  have m96 : M96.2 = (n + 65, w + 2578) := e96
  have a96 : M96.1 n = some (.inl (2, 6, .inr (.inr (.inr (.inr (va_up (va_up (fun _ => none) 0 (some (n + 59))) 1 (some (n + 61)))))))) := (f96 _ (by omega) (by omega)).trans a94
  refine R_aastq (q := 155) rfl rfl a96 g96_0 rfl (in_nI (by decide) (by decide)) (fun M97 e97 c97 f97 => ?_)
  have a97 : M97.1 n = some (.inl (2, 6, .inr (.inr (.inr (.inr (va_up (va_up (va_up (fun _ => none) 0 (some (n + 59))) 1 (some (n + 61))) 2 (some (n + 63)))))))) := c97
  have h97 : M97.1 a = some (.inr (11, [.ref n, .ref (n + 1), .ref (n + 3), .ref (n + 6), .ref (n + 28), .ref (n + 33), .ref (n + 40), .ref (n + 47), .ref (n + 49), .ref (n + 51), .ref (n + 53), .ref (n + 58)])) := (f97 _ (by omega)).trans h96
  have m97 : M97.2 = (n + 65, w + 2578) := e97.trans m96
  refine R_iinc (q := 158) rfl rfl rfl (nI_i1 2) rfl ?_
  dsimp only [List.set]
  refine R_goto (t := 136) rfl rfl ?_
  refine R_iload_n (q := 137) rfl rfl rfl ?_
  refine R_bipush (q := 139) (v := nI 6) rfl rfl (by decide) ?_
  refine R_icmp_ge (q := 142) (t := 161) rfl rfl rfl (fun h => absurd h (by decide)) (fun _ => ?_)
  refine R_aload_n (q := 143) rfl rfl rfl ?_
  refine R_getf (q := 146) rfl rfl rfl h97 rfl ?_
  refine R_iload_n (q := 147) rfl rfl rfl ?_
  refine R_newq (q := 150) rfl rfl rfl m97 (fun M106 e106 c106 f106 => ?_)
  have h106 : M106.1 a = some (.inr (11, [.ref n, .ref (n + 1), .ref (n + 3), .ref (n + 6), .ref (n + 28), .ref (n + 33), .ref (n + 40), .ref (n + 47), .ref (n + 49), .ref (n + 51), .ref (n + 53), .ref (n + 58)])) := (f106 _ (by omega)).trans h97
  have m106 : M106.2 = (n + 66, w + 2579) := e106
  have a106 : M106.1 n = some (.inl (2, 6, .inr (.inr (.inr (.inr (va_up (va_up (va_up (fun _ => none) 0 (some (n + 59))) 1 (some (n + 61))) 2 (some (n + 63)))))))) := (f106 _ (by omega)).trans a97
  refine R_dupa (q := 151) rfl rfl ?_
  refine R_calli0 (q := 154) rfl rfl rfl rfl (Nat.le_of_ble_eq_true rfl) ?_
  refine R_mono (i1 c106 m106 (by omega)) (fun v108 M108 hr108 => ?_)
  obtain ⟨rfl, e108, f108, g108_0, g108_1⟩ := hr108
  dsimp only [Option.toList, List.nil_append]
  have h108 : M108.1 a = some (.inr (11, [.ref n, .ref (n + 1), .ref (n + 3), .ref (n + 6), .ref (n + 28), .ref (n + 33), .ref (n + 40), .ref (n + 47), .ref (n + 49), .ref (n + 51), .ref (n + 53), .ref (n + 58)])) := (f108 _ (by omega) (by omega)).trans h106
  have m108 : M108.2 = (n + 67, w + 2595) := e108
  have a108 : M108.1 n = some (.inl (2, 6, .inr (.inr (.inr (.inr (va_up (va_up (va_up (fun _ => none) 0 (some (n + 59))) 1 (some (n + 61))) 2 (some (n + 63)))))))) := (f108 _ (by omega) (by omega)).trans a106
  refine R_aastq (q := 155) rfl rfl a108 g108_0 rfl (in_nI (by decide) (by decide)) (fun M109 e109 c109 f109 => ?_)
  have a109 : M109.1 n = some (.inl (2, 6, .inr (.inr (.inr (.inr (va_up (va_up (va_up (va_up (fun _ => none) 0 (some (n + 59))) 1 (some (n + 61))) 2 (some (n + 63))) 3 (some (n + 65)))))))) := c109
  have h109 : M109.1 a = some (.inr (11, [.ref n, .ref (n + 1), .ref (n + 3), .ref (n + 6), .ref (n + 28), .ref (n + 33), .ref (n + 40), .ref (n + 47), .ref (n + 49), .ref (n + 51), .ref (n + 53), .ref (n + 58)])) := (f109 _ (by omega)).trans h108
  have m109 : M109.2 = (n + 67, w + 2595) := e109.trans m108
  refine R_iinc (q := 158) rfl rfl rfl (nI_i1 3) rfl ?_
  dsimp only [List.set]
  refine R_goto (t := 136) rfl rfl ?_
  refine R_iload_n (q := 137) rfl rfl rfl ?_
  refine R_bipush (q := 139) (v := nI 6) rfl rfl (by decide) ?_
  refine R_icmp_ge (q := 142) (t := 161) rfl rfl rfl (fun h => absurd h (by decide)) (fun _ => ?_)
  refine R_aload_n (q := 143) rfl rfl rfl ?_
  refine R_getf (q := 146) rfl rfl rfl h109 rfl ?_
  refine R_iload_n (q := 147) rfl rfl rfl ?_
  refine R_newq (q := 150) rfl rfl rfl m109 (fun M118 e118 c118 f118 => ?_)
  have h118 : M118.1 a = some (.inr (11, [.ref n, .ref (n + 1), .ref (n + 3), .ref (n + 6), .ref (n + 28), .ref (n + 33), .ref (n + 40), .ref (n + 47), .ref (n + 49), .ref (n + 51), .ref (n + 53), .ref (n + 58)])) := (f118 _ (by omega)).trans h109
  have m118 : M118.2 = (n + 68, w + 2596) := e118
  have a118 : M118.1 n = some (.inl (2, 6, .inr (.inr (.inr (.inr (va_up (va_up (va_up (va_up (fun _ => none) 0 (some (n + 59))) 1 (some (n + 61))) 2 (some (n + 63))) 3 (some (n + 65)))))))) := (f118 _ (by omega)).trans a109
  refine R_dupa (q := 151) rfl rfl ?_
  refine R_calli0 (q := 154) rfl rfl rfl rfl (Nat.le_of_ble_eq_true rfl) ?_
  refine R_mono (i1 c118 m118 (by omega)) (fun v120 M120 hr120 => ?_)
  obtain ⟨rfl, e120, f120, g120_0, g120_1⟩ := hr120
  dsimp only [Option.toList, List.nil_append]
  have h120 : M120.1 a = some (.inr (11, [.ref n, .ref (n + 1), .ref (n + 3), .ref (n + 6), .ref (n + 28), .ref (n + 33), .ref (n + 40), .ref (n + 47), .ref (n + 49), .ref (n + 51), .ref (n + 53), .ref (n + 58)])) := (f120 _ (by omega) (by omega)).trans h118
  have m120 : M120.2 = (n + 69, w + 2612) := e120
  have a120 : M120.1 n = some (.inl (2, 6, .inr (.inr (.inr (.inr (va_up (va_up (va_up (va_up (fun _ => none) 0 (some (n + 59))) 1 (some (n + 61))) 2 (some (n + 63))) 3 (some (n + 65)))))))) := (f120 _ (by omega) (by omega)).trans a118
  refine R_aastq (q := 155) rfl rfl a120 g120_0 rfl (in_nI (by decide) (by decide)) (fun M121 e121 c121 f121 => ?_)
  have a121 : M121.1 n = some (.inl (2, 6, .inr (.inr (.inr (.inr (va_up (va_up (va_up (va_up (va_up (fun _ => none) 0 (some (n + 59))) 1 (some (n + 61))) 2 (some (n + 63))) 3 (some (n + 65))) 4 (some (n + 67)))))))) := c121
  have h121 : M121.1 a = some (.inr (11, [.ref n, .ref (n + 1), .ref (n + 3), .ref (n + 6), .ref (n + 28), .ref (n + 33), .ref (n + 40), .ref (n + 47), .ref (n + 49), .ref (n + 51), .ref (n + 53), .ref (n + 58)])) := (f121 _ (by omega)).trans h120
  have m121 : M121.2 = (n + 69, w + 2612) := e121.trans m120
  refine R_iinc (q := 158) rfl rfl rfl (nI_i1 4) rfl ?_
  dsimp only [List.set]
  refine R_goto (t := 136) rfl rfl ?_
  refine R_iload_n (q := 137) rfl rfl rfl ?_
  refine R_bipush (q := 139) (v := nI 6) rfl rfl (by decide) ?_
  refine R_icmp_ge (q := 142) (t := 161) rfl rfl rfl (fun h => absurd h (by decide)) (fun _ => ?_)
  refine R_aload_n (q := 143) rfl rfl rfl ?_
  refine R_getf (q := 146) rfl rfl rfl h121 rfl ?_
  refine R_iload_n (q := 147) rfl rfl rfl ?_
  refine R_newq (q := 150) rfl rfl rfl m121 (fun M130 e130 c130 f130 => ?_)
  have h130 : M130.1 a = some (.inr (11, [.ref n, .ref (n + 1), .ref (n + 3), .ref (n + 6), .ref (n + 28), .ref (n + 33), .ref (n + 40), .ref (n + 47), .ref (n + 49), .ref (n + 51), .ref (n + 53), .ref (n + 58)])) := (f130 _ (by omega)).trans h121
  have m130 : M130.2 = (n + 70, w + 2613) := e130
  have a130 : M130.1 n = some (.inl (2, 6, .inr (.inr (.inr (.inr (va_up (va_up (va_up (va_up (va_up (fun _ => none) 0 (some (n + 59))) 1 (some (n + 61))) 2 (some (n + 63))) 3 (some (n + 65))) 4 (some (n + 67)))))))) := (f130 _ (by omega)).trans a121
  refine R_dupa (q := 151) rfl rfl ?_
  refine R_calli0 (q := 154) rfl rfl rfl rfl (Nat.le_of_ble_eq_true rfl) ?_
  refine R_mono (i1 c130 m130 (by omega)) (fun v132 M132 hr132 => ?_)
  obtain ⟨rfl, e132, f132, g132_0, g132_1⟩ := hr132
  dsimp only [Option.toList, List.nil_append]
  have h132 : M132.1 a = some (.inr (11, [.ref n, .ref (n + 1), .ref (n + 3), .ref (n + 6), .ref (n + 28), .ref (n + 33), .ref (n + 40), .ref (n + 47), .ref (n + 49), .ref (n + 51), .ref (n + 53), .ref (n + 58)])) := (f132 _ (by omega) (by omega)).trans h130
  have m132 : M132.2 = (n + 71, w + 2629) := e132
  have a132 : M132.1 n = some (.inl (2, 6, .inr (.inr (.inr (.inr (va_up (va_up (va_up (va_up (va_up (fun _ => none) 0 (some (n + 59))) 1 (some (n + 61))) 2 (some (n + 63))) 3 (some (n + 65))) 4 (some (n + 67)))))))) := (f132 _ (by omega) (by omega)).trans a130
  refine R_aastq (q := 155) rfl rfl a132 g132_0 rfl (in_nI (by decide) (by decide)) (fun M133 e133 c133 f133 => ?_)
  have a133 : M133.1 n = some (.inl (2, 6, .inr (.inr (.inr (.inr (va_up (va_up (va_up (va_up (va_up (va_up (fun _ => none) 0 (some (n + 59))) 1 (some (n + 61))) 2 (some (n + 63))) 3 (some (n + 65))) 4 (some (n + 67))) 5 (some (n + 69)))))))) := c133
  have h133 : M133.1 a = some (.inr (11, [.ref n, .ref (n + 1), .ref (n + 3), .ref (n + 6), .ref (n + 28), .ref (n + 33), .ref (n + 40), .ref (n + 47), .ref (n + 49), .ref (n + 51), .ref (n + 53), .ref (n + 58)])) := (f133 _ (by omega)).trans h132
  have m133 : M133.2 = (n + 71, w + 2629) := e133.trans m132
  refine R_iinc (q := 158) rfl rfl rfl (nI_i1 5) rfl ?_
  dsimp only [List.set]
  refine R_goto (t := 136) rfl rfl ?_
  refine R_iload_n (q := 137) rfl rfl rfl ?_
  refine R_bipush (q := 139) (v := nI 6) rfl rfl (by decide) ?_
  refine R_icmp_ge (q := 142) (t := 161) rfl rfl rfl (fun _ => ?_) (fun h => absurd (by decide) h)
  have G53 : ∀ k, k ≠ a → k ≠ n → k < n + 71 → M133.1 k = M133.1 k := fun _ _ _ _ => rfl
  have G52 : ∀ k, k ≠ a → k ≠ n → k < n + 71 → M133.1 k = M132.1 k := fun k ha1 hx hk => (G53 k ha1 hx (by omega)).trans (f133 k (by omega))
  have G51 : ∀ k, k ≠ a → k ≠ n → k < n + 69 → M133.1 k = M130.1 k := fun k ha1 hx hk => (G52 k ha1 hx (by omega)).trans (f132 k (by omega) (by omega))
  have G50 : ∀ k, k ≠ a → k ≠ n → k < n + 69 → M133.1 k = M121.1 k := fun k ha1 hx hk => (G51 k ha1 hx (by omega)).trans (f130 k (by omega))
  have G49 : ∀ k, k ≠ a → k ≠ n → k < n + 69 → M133.1 k = M120.1 k := fun k ha1 hx hk => (G50 k ha1 hx (by omega)).trans (f121 k (by omega))
  have G48 : ∀ k, k ≠ a → k ≠ n → k < n + 67 → M133.1 k = M118.1 k := fun k ha1 hx hk => (G49 k ha1 hx (by omega)).trans (f120 k (by omega) (by omega))
  have G47 : ∀ k, k ≠ a → k ≠ n → k < n + 67 → M133.1 k = M109.1 k := fun k ha1 hx hk => (G48 k ha1 hx (by omega)).trans (f118 k (by omega))
  have G46 : ∀ k, k ≠ a → k ≠ n → k < n + 67 → M133.1 k = M108.1 k := fun k ha1 hx hk => (G47 k ha1 hx (by omega)).trans (f109 k (by omega))
  have G45 : ∀ k, k ≠ a → k ≠ n → k < n + 65 → M133.1 k = M106.1 k := fun k ha1 hx hk => (G46 k ha1 hx (by omega)).trans (f108 k (by omega) (by omega))
  have G44 : ∀ k, k ≠ a → k ≠ n → k < n + 65 → M133.1 k = M97.1 k := fun k ha1 hx hk => (G45 k ha1 hx (by omega)).trans (f106 k (by omega))
  have G43 : ∀ k, k ≠ a → k ≠ n → k < n + 65 → M133.1 k = M96.1 k := fun k ha1 hx hk => (G44 k ha1 hx (by omega)).trans (f97 k (by omega))
  have G42 : ∀ k, k ≠ a → k ≠ n → k < n + 63 → M133.1 k = M94.1 k := fun k ha1 hx hk => (G43 k ha1 hx (by omega)).trans (f96 k (by omega) (by omega))
  have G41 : ∀ k, k ≠ a → k ≠ n → k < n + 63 → M133.1 k = M85.1 k := fun k ha1 hx hk => (G42 k ha1 hx (by omega)).trans (f94 k (by omega))
  have G40 : ∀ k, k ≠ a → k ≠ n → k < n + 63 → M133.1 k = M84.1 k := fun k ha1 hx hk => (G41 k ha1 hx (by omega)).trans (f85 k (by omega))
  have G39 : ∀ k, k ≠ a → k ≠ n → k < n + 61 → M133.1 k = M82.1 k := fun k ha1 hx hk => (G40 k ha1 hx (by omega)).trans (f84 k (by omega) (by omega))
  have G38 : ∀ k, k ≠ a → k ≠ n → k < n + 61 → M133.1 k = M73.1 k := fun k ha1 hx hk => (G39 k ha1 hx (by omega)).trans (f82 k (by omega))
  have G37 : ∀ k, k ≠ a → k ≠ n → k < n + 61 → M133.1 k = M72.1 k := fun k ha1 hx hk => (G38 k ha1 hx (by omega)).trans (f73 k (by omega))
  have G36 : ∀ k, k ≠ a → k ≠ n → k < n + 59 → M133.1 k = M70.1 k := fun k ha1 hx hk => (G37 k ha1 hx (by omega)).trans (f72 k (by omega) (by omega))
  have G35 : ∀ k, k ≠ a → k ≠ n → k < n + 59 → M133.1 k = M61.1 k := fun k ha1 hx hk => (G36 k ha1 hx (by omega)).trans (f70 k (by omega))
  have G34 : ∀ k, k ≠ a → k ≠ n → k < n + 59 → M133.1 k = M60.1 k := fun k ha1 hx hk => (G35 k ha1 hx (by omega)).trans (f61 k (by omega))
  have G33 : ∀ k, k ≠ a → k ≠ n → k < n + 58 → M133.1 k = M58.1 k := fun k ha1 hx hk => (G34 k ha1 hx (by omega)).trans (f60 k (by omega) (by omega))
  have G32 : ∀ k, k ≠ a → k ≠ n → k < n + 58 → M133.1 k = M56.1 k := fun k ha1 hx hk => (G33 k ha1 hx (by omega)).trans (f58 k (by omega))
  have G31 : ∀ k, k ≠ a → k ≠ n → k < n + 58 → M133.1 k = M55.1 k := fun k ha1 hx hk => (G32 k ha1 hx (by omega)).trans (f56 k (by omega))
  have G30 : ∀ k, k ≠ a → k ≠ n → k < n + 53 → M133.1 k = M53.1 k := fun k ha1 hx hk => (G31 k ha1 hx (by omega)).trans (f55 k (by omega) (by omega))
  have G29 : ∀ k, k ≠ a → k ≠ n → k < n + 53 → M133.1 k = M51.1 k := fun k ha1 hx hk => (G30 k ha1 hx (by omega)).trans (f53 k (by omega))
  have G28 : ∀ k, k ≠ a → k ≠ n → k < n + 53 → M133.1 k = M50.1 k := fun k ha1 hx hk => (G29 k ha1 hx (by omega)).trans (f51 k (by omega))
  have G27 : ∀ k, k ≠ a → k ≠ n → k < n + 51 → M133.1 k = M48.1 k := fun k ha1 hx hk => (G28 k ha1 hx (by omega)).trans (f50 k (by omega) (by omega))
  have G26 : ∀ k, k ≠ a → k ≠ n → k < n + 51 → M133.1 k = M46.1 k := fun k ha1 hx hk => (G27 k ha1 hx (by omega)).trans (f48 k (by omega))
  have G25 : ∀ k, k ≠ a → k ≠ n → k < n + 51 → M133.1 k = M45.1 k := fun k ha1 hx hk => (G26 k ha1 hx (by omega)).trans (f46 k (by omega))
  have G24 : ∀ k, k ≠ a → k ≠ n → k < n + 49 → M133.1 k = M43.1 k := fun k ha1 hx hk => (G25 k ha1 hx (by omega)).trans (f45 k (by omega) (by omega))
  have G23 : ∀ k, k ≠ a → k ≠ n → k < n + 49 → M133.1 k = M41.1 k := fun k ha1 hx hk => (G24 k ha1 hx (by omega)).trans (f43 k (by omega))
  have G22 : ∀ k, k ≠ a → k ≠ n → k < n + 49 → M133.1 k = M40.1 k := fun k ha1 hx hk => (G23 k ha1 hx (by omega)).trans (f41 k (by omega))
  have G21 : ∀ k, k ≠ a → k ≠ n → k < n + 47 → M133.1 k = M38.1 k := fun k ha1 hx hk => (G22 k ha1 hx (by omega)).trans (f40 k (by omega) (by omega))
  have G20 : ∀ k, k ≠ a → k ≠ n → k < n + 47 → M133.1 k = M36.1 k := fun k ha1 hx hk => (G21 k ha1 hx (by omega)).trans (f38 k (by omega))
  have G19 : ∀ k, k ≠ a → k ≠ n → k < n + 47 → M133.1 k = M35.1 k := fun k ha1 hx hk => (G20 k ha1 hx (by omega)).trans (f36 k (by omega))
  have G18 : ∀ k, k ≠ a → k ≠ n → k < n + 40 → M133.1 k = M33.1 k := fun k ha1 hx hk => (G19 k ha1 hx (by omega)).trans (f35 k (by omega) (by omega))
  have G17 : ∀ k, k ≠ a → k ≠ n → k < n + 40 → M133.1 k = M31.1 k := fun k ha1 hx hk => (G18 k ha1 hx (by omega)).trans (f33 k (by omega))
  have G16 : ∀ k, k ≠ a → k ≠ n → k < n + 40 → M133.1 k = M30.1 k := fun k ha1 hx hk => (G17 k ha1 hx (by omega)).trans (f31 k (by omega))
  have G15 : ∀ k, k ≠ a → k ≠ n → k < n + 33 → M133.1 k = M28.1 k := fun k ha1 hx hk => (G16 k ha1 hx (by omega)).trans (f30 k (by omega) (by omega))
  have G14 : ∀ k, k ≠ a → k ≠ n → k < n + 33 → M133.1 k = M26.1 k := fun k ha1 hx hk => (G15 k ha1 hx (by omega)).trans (f28 k (by omega))
  have G13 : ∀ k, k ≠ a → k ≠ n → k < n + 33 → M133.1 k = M25.1 k := fun k ha1 hx hk => (G14 k ha1 hx (by omega)).trans (f26 k (by omega))
  have G12 : ∀ k, k ≠ a → k ≠ n → k < n + 28 → M133.1 k = M23.1 k := fun k ha1 hx hk => (G13 k ha1 hx (by omega)).trans (f25 k (by omega) (by omega))
  have G11 : ∀ k, k ≠ a → k ≠ n → k < n + 28 → M133.1 k = M21.1 k := fun k ha1 hx hk => (G12 k ha1 hx (by omega)).trans (f23 k (by omega))
  have G10 : ∀ k, k ≠ a → k ≠ n → k < n + 28 → M133.1 k = M20.1 k := fun k ha1 hx hk => (G11 k ha1 hx (by omega)).trans (f21 k (by omega))
  have G9 : ∀ k, k ≠ a → k ≠ n → k < n + 6 → M133.1 k = M18.1 k := fun k ha1 hx hk => (G10 k ha1 hx (by omega)).trans (f20 k (by omega) (by omega))
  have G8 : ∀ k, k ≠ a → k ≠ n → k < n + 6 → M133.1 k = M16.1 k := fun k ha1 hx hk => (G9 k ha1 hx (by omega)).trans (f18 k (by omega))
  have G7 : ∀ k, k ≠ a → k ≠ n → k < n + 6 → M133.1 k = M15.1 k := fun k ha1 hx hk => (G8 k ha1 hx (by omega)).trans (f16 k (by omega))
  have G6 : ∀ k, k ≠ a → k ≠ n → k < n + 3 → M133.1 k = M13.1 k := fun k ha1 hx hk => (G7 k ha1 hx (by omega)).trans (f15 k (by omega) (by omega))
  have G5 : ∀ k, k ≠ a → k ≠ n → k < n + 3 → M133.1 k = M11.1 k := fun k ha1 hx hk => (G6 k ha1 hx (by omega)).trans (f13 k (by omega))
  have G4 : ∀ k, k ≠ a → k ≠ n → k < n + 3 → M133.1 k = M10.1 k := fun k ha1 hx hk => (G5 k ha1 hx (by omega)).trans (f11 k (by omega))
  have G3 : ∀ k, k ≠ a → k ≠ n → k < n + 1 → M133.1 k = M8.1 k := fun k ha1 hx hk => (G4 k ha1 hx (by omega)).trans (f10 k (by omega) (by omega))
  have G2 : ∀ k, k ≠ a → k ≠ n → k < n + 0 → M133.1 k = M6.1 k := fun k ha1 hx hk => (G3 k ha1 hx (by omega)).trans (f8 k (by omega))
  have G1 : ∀ k, k ≠ a → k ≠ n → k < n + 0 → M133.1 k = M5.1 k := fun k ha1 hx hk => (G2 k ha1 hx (by omega)).trans (f6 k (by omega))
  have G0 : ∀ k, k ≠ a → k ≠ n → k < n + 0 → M133.1 k = M.1 k := fun k ha1 hx hk => (G1 k ha1 hx (by omega)).trans (f5 k (by omega))
  refine R_return rfl rfl ?_
  exact ⟨rfl, m133, fun k hk hka => G0 k hka (by omega) (by omega), h133, a133, (G4 _ (by omega) (by omega) (by omega)).trans g10_0, (G4 _ (by omega) (by omega) (by omega)).trans g10_1, (G7 _ (by omega) (by omega) (by omega)).trans g15_0, (G7 _ (by omega) (by omega) (by omega)).trans g15_1, (G7 _ (by omega) (by omega) (by omega)).trans g15_2, (G10 _ (by omega) (by omega) (by omega)).trans g20_0, (G10 _ (by omega) (by omega) (by omega)).trans g20_1, (G10 _ (by omega) (by omega) (by omega)).trans g20_2, (G10 _ (by omega) (by omega) (by omega)).trans g20_3, (G10 _ (by omega) (by omega) (by omega)).trans g20_4, (G10 _ (by omega) (by omega) (by omega)).trans g20_5, (G10 _ (by omega) (by omega) (by omega)).trans g20_6, (G10 _ (by omega) (by omega) (by omega)).trans g20_7, (G10 _ (by omega) (by omega) (by omega)).trans g20_8, (G10 _ (by omega) (by omega) (by omega)).trans g20_9, (G10 _ (by omega) (by omega) (by omega)).trans g20_10, (G10 _ (by omega) (by omega) (by omega)).trans g20_11, (G10 _ (by omega) (by omega) (by omega)).trans g20_12, (G10 _ (by omega) (by omega) (by omega)).trans g20_13, (G10 _ (by omega) (by omega) (by omega)).trans g20_14, (G10 _ (by omega) (by omega) (by omega)).trans g20_15, (G10 _ (by omega) (by omega) (by omega)).trans g20_16, (G10 _ (by omega) (by omega) (by omega)).trans g20_17, (G10 _ (by omega) (by omega) (by omega)).trans g20_18, (G10 _ (by omega) (by omega) (by omega)).trans g20_19, (G10 _ (by omega) (by omega) (by omega)).trans g20_20, (G10 _ (by omega) (by omega) (by omega)).trans g20_21, (G13 _ (by omega) (by omega) (by omega)).trans g25_0, (G13 _ (by omega) (by omega) (by omega)).trans g25_1, (G13 _ (by omega) (by omega) (by omega)).trans g25_2, (G13 _ (by omega) (by omega) (by omega)).trans g25_3, (G13 _ (by omega) (by omega) (by omega)).trans g25_4, (G16 _ (by omega) (by omega) (by omega)).trans g30_0, (G16 _ (by omega) (by omega) (by omega)).trans g30_1, (G16 _ (by omega) (by omega) (by omega)).trans g30_2, (G16 _ (by omega) (by omega) (by omega)).trans g30_3, (G16 _ (by omega) (by omega) (by omega)).trans g30_4, (G16 _ (by omega) (by omega) (by omega)).trans g30_5, (G16 _ (by omega) (by omega) (by omega)).trans g30_6, (G19 _ (by omega) (by omega) (by omega)).trans g35_0, (G19 _ (by omega) (by omega) (by omega)).trans g35_1, (G19 _ (by omega) (by omega) (by omega)).trans g35_2, (G19 _ (by omega) (by omega) (by omega)).trans g35_3, (G19 _ (by omega) (by omega) (by omega)).trans g35_4, (G19 _ (by omega) (by omega) (by omega)).trans g35_5, (G19 _ (by omega) (by omega) (by omega)).trans g35_6, (G22 _ (by omega) (by omega) (by omega)).trans g40_0, (G22 _ (by omega) (by omega) (by omega)).trans g40_1, (G25 _ (by omega) (by omega) (by omega)).trans g45_0, (G25 _ (by omega) (by omega) (by omega)).trans g45_1, (G28 _ (by omega) (by omega) (by omega)).trans g50_0, (G28 _ (by omega) (by omega) (by omega)).trans g50_1, (G31 _ (by omega) (by omega) (by omega)).trans g55_0, (G31 _ (by omega) (by omega) (by omega)).trans g55_1, (G31 _ (by omega) (by omega) (by omega)).trans g55_2, (G31 _ (by omega) (by omega) (by omega)).trans g55_3, (G31 _ (by omega) (by omega) (by omega)).trans g55_4, (G34 _ (by omega) (by omega) (by omega)).trans g60_0, (G37 _ (by omega) (by omega) (by omega)).trans g72_0, (G37 _ (by omega) (by omega) (by omega)).trans g72_1, (G40 _ (by omega) (by omega) (by omega)).trans g84_0, (G40 _ (by omega) (by omega) (by omega)).trans g84_1, (G43 _ (by omega) (by omega) (by omega)).trans g96_0, (G43 _ (by omega) (by omega) (by omega)).trans g96_1, (G46 _ (by omega) (by omega) (by omega)).trans g108_0, (G46 _ (by omega) (by omega) (by omega)).trans g108_1, (G49 _ (by omega) (by omega) (by omega)).trans g120_0, (G49 _ (by omega) (by omega) (by omega)).trans g120_1, (G52 _ (by omega) (by omega) (by omega)).trans g132_0, (G52 _ (by omega) (by omega) (by omega)).trans g132_1⟩
set_option maxRecDepth 8000 in
theorem i146 (ha : M.1 a = some (.inr (12, mm_df 12))) (hm : M.2 = (n, w)) (han : a < n) : mm_R S (d + 1) 146 0 (mm_en 146 [.ref a]) [] M (fun v M' => v = none ∧ M'.2 = (n + 37, w + 12553) ∧ (∀ k, k < n → k ≠ a → M'.1 k = M.1 k) ∧ M'.1 a = some (.inr (12, [.ref n, .ref (n + 1), .ref (n + 2), .ref (n + 3), .int 0, .ref (n + 4), .ref (n + 5), .ref (n + 6), .ref (n + 7), .ref (n + 8), .ref (n + 9), .ref (n + 10), .ref (n + 11), .ref (n + 12), .ref (n + 13), .ref (n + 14), .ref (n + 15), .ref (n + 16), .ref (n + 17), .int 0, .int 0, .int 0, .int 0, .int 0, .ref (n + 18), .ref (n + 19), .ref (n + 20), .ref (n + 21), .int 0, .ref (n + 22), .ref (n + 23), .int 0, .ref (n + 24), .ref (n + 25), .ref (n + 26), .int 0, .int 0, .ref (n + 27), .ref (n + 28), .ref (n + 29), .ref (n + 30), .ref (n + 31), .ref (n + 32), .ref (n + 33), .int 0, .ref (n + 34), .int 0, .ref (n + 35), .int 0, .ref (n + 36), .int 0])) ∧ M'.1 n = some (.inl (1, 1536, .inl (fun _ => 0))) ∧ M'.1 (n + 1) = some (.inl (1, 256, .inl (fun _ => 0))) ∧ M'.1 (n + 2) = some (.inl (0, 24, .inl (fun _ => 0))) ∧ M'.1 (n + 3) = some (.inl (0, 24, .inl (fun _ => 0))) ∧ M'.1 (n + 4) = some (.inl (0, 6, .inl (fun _ => 0))) ∧ M'.1 (n + 5) = some (.inl (0, 36, .inl (fun _ => 0))) ∧ M'.1 (n + 6) = some (.inl (0, 36, .inl (fun _ => 0))) ∧ M'.1 (n + 7) = some (.inl (0, 36, .inl (fun _ => 0))) ∧ M'.1 (n + 8) = some (.inl (0, 36, .inl (fun _ => 0))) ∧ M'.1 (n + 9) = some (.inl (0, 6, .inl (fun _ => 0))) ∧ M'.1 (n + 10) = some (.inl (0, 24, .inl (fun _ => 0))) ∧ M'.1 (n + 11) = some (.inl (0, 24, .inl (fun _ => 0))) ∧ M'.1 (n + 12) = some (.inl (0, 24, .inl (fun _ => 0))) ∧ M'.1 (n + 13) = some (.inl (0, 24, .inl (fun _ => 0))) ∧ M'.1 (n + 14) = some (.inl (0, 24, .inl (fun _ => 0))) ∧ M'.1 (n + 15) = some (.inl (0, 24, .inl (fun _ => 0))) ∧ M'.1 (n + 16) = some (.inl (0, 24, .inl (fun _ => 0))) ∧ M'.1 (n + 17) = some (.inl (0, 24, .inl (fun _ => 0))) ∧ M'.1 (n + 18) = some (.inl (0, 6, .inl (fun _ => 0))) ∧ M'.1 (n + 19) = some (.inl (0, 2400, .inl (fun _ => 0))) ∧ M'.1 (n + 20) = some (.inl (0, 32, .inl (upd (upd (upd (upd (upd (upd (upd (upd (upd (upd (upd (upd (upd (upd (upd (upd (upd (upd (upd (upd (upd (upd (upd (upd (upd (upd (upd (upd (upd (upd (upd (upd (fun _ => 0) 0 (nI 1)) 1 (nI 0)) 2 (nI 0)) 3 (nI 1)) 4 (nI 0)) 5 ((-1))) 6 (nI 1)) 7 (nI 0)) 8 ((-1))) 9 (nI 0)) 10 (nI 0)) 11 ((-1))) 12 (nI 0)) 13 (nI 1)) 14 ((-1))) 15 (nI 0)) 16 ((-1))) 17 (nI 0)) 18 (nI 0)) 19 (nI 1)) 20 (nI 0)) 21 ((-1))) 22 ((-1))) 23 (nI 0)) 24 (nI 1)) 25 (nI 0)) 26 (nI 0)) 27 ((-1))) 28 (nI 0)) 29 (nI 1)) 30 (nI 1)) 31 (nI 0)))) ∧ M'.1 (n + 21) = some (.inl (0, 800, .inl (fun _ => 0))) ∧ M'.1 (n + 22) = some (.inl (0, 289, .inl (fun _ => 0))) ∧ M'.1 (n + 23) = some (.inl (0, 289, .inl (fun _ => 0))) ∧ M'.1 (n + 24) = some (.inl (0, 289, .inl (fun _ => 0))) ∧ M'.1 (n + 25) = some (.inl (0, 289, .inl (fun _ => 0))) ∧ M'.1 (n + 26) = some (.inl (0, 289, .inl (fun _ => 0))) ∧ M'.1 (n + 27) = some (.inl (1, 272, .inl (fun _ => 0))) ∧ M'.1 (n + 28) = some (.inl (1, 272, .inl (fun _ => 0))) ∧ M'.1 (n + 29) = some (.inl (1, 289, .inl (fun _ => 0))) ∧ M'.1 (n + 30) = some (.inl (1, 289, .inl (fun _ => 0))) ∧ M'.1 (n + 31) = some (.inl (0, 256, .inl (fun _ => 0))) ∧ M'.1 (n + 32) = some (.inl (1, 256, .inl (fun _ => 0))) ∧ M'.1 (n + 33) = some (.inl (0, 1024, .inl (fun _ => 0))) ∧ M'.1 (n + 34) = some (.inl (0, 1024, .inl (fun _ => 0))) ∧ M'.1 (n + 35) = some (.inl (0, 400, .inl (fun _ => 0))) ∧ M'.1 (n + 36) = some (.inl (0, 1600, .inl (fun _ => 0)))) := by
  show mm_R S (d + 1) 146 0 [some (.ref a)] [] M _
  refine R_aload_n (q := 1) rfl rfl rfl ?_
  refine R_objinit (q := 4) rfl rfl (by decide +kernel) rfl (by omega) (Nat.le_of_ble_eq_true rfl) ?_
  refine R_aload_n (q := 5) rfl rfl rfl ?_
  refine R_sipush (q := 8) (v := nI 1536) rfl rfl (by decide) ?_
  refine R_newzq (q := 10) rfl rfl (by decide) hm (fun M5 e5 c5 f5 => ?_)
  have h5 : M5.1 a = some (.inr (12, [.null, .null, .null, .null, .int 0, .null, .null, .null, .null, .null, .null, .null, .null, .null, .null, .null, .null, .null, .null, .int 0, .int 0, .int 0, .int 0, .int 0, .null, .null, .null, .null, .int 0, .null, .null, .int 0, .null, .null, .null, .int 0, .int 0, .null, .null, .null, .null, .null, .null, .null, .int 0, .null, .int 0, .null, .int 0, .null, .int 0])) := (f5 _ (by omega)).trans ha
  have m5 : M5.2 = (n + 1, w + 1536) := e5
  have d5 : M5.1 n = some (.inl (1, 1536, .inl (fun _ => 0))) := c5
  refine R_putq (q := 13) rfl rfl rfl h5 (Nat.le_of_ble_eq_true rfl) rfl (fun _ => ⟨rfl, rfl⟩) rfl (fun M6 e6 c6 f6 => ?_)
  dsimp only [List.set] at c6
  have h6 : M6.1 a = some (.inr (12, [.ref n, .null, .null, .null, .int 0, .null, .null, .null, .null, .null, .null, .null, .null, .null, .null, .null, .null, .null, .null, .int 0, .int 0, .int 0, .int 0, .int 0, .null, .null, .null, .null, .int 0, .null, .null, .int 0, .null, .null, .null, .int 0, .int 0, .null, .null, .null, .null, .null, .null, .null, .int 0, .null, .int 0, .null, .int 0, .null, .int 0])) := c6
  have m6 : M6.2 = (n + 1, w + 1536) := e6.trans m5
  refine R_aload_n (q := 14) rfl rfl rfl ?_
  refine R_sipush (q := 17) (v := nI 256) rfl rfl (by decide) ?_
  refine R_newzq (q := 19) rfl rfl (by decide) m6 (fun M9 e9 c9 f9 => ?_)
  have h9 : M9.1 a = some (.inr (12, [.ref n, .null, .null, .null, .int 0, .null, .null, .null, .null, .null, .null, .null, .null, .null, .null, .null, .null, .null, .null, .int 0, .int 0, .int 0, .int 0, .int 0, .null, .null, .null, .null, .int 0, .null, .null, .int 0, .null, .null, .null, .int 0, .int 0, .null, .null, .null, .null, .null, .null, .null, .int 0, .null, .int 0, .null, .int 0, .null, .int 0])) := (f9 _ (by omega)).trans h6
  have m9 : M9.2 = (n + 2, w + 1792) := e9
  have d9 : M9.1 (n + 1) = some (.inl (1, 256, .inl (fun _ => 0))) := c9
  refine R_putq (q := 22) rfl rfl rfl h9 (Nat.le_of_ble_eq_true rfl) rfl (fun _ => ⟨rfl, rfl⟩) rfl (fun M10 e10 c10 f10 => ?_)
  dsimp only [List.set] at c10
  have h10 : M10.1 a = some (.inr (12, [.ref n, .ref (n + 1), .null, .null, .int 0, .null, .null, .null, .null, .null, .null, .null, .null, .null, .null, .null, .null, .null, .null, .int 0, .int 0, .int 0, .int 0, .int 0, .null, .null, .null, .null, .int 0, .null, .null, .int 0, .null, .null, .null, .int 0, .int 0, .null, .null, .null, .null, .null, .null, .null, .int 0, .null, .int 0, .null, .int 0, .null, .int 0])) := c10
  have m10 : M10.2 = (n + 2, w + 1792) := e10.trans m9
  refine R_aload_n (q := 23) rfl rfl rfl ?_
  refine R_bipush (q := 25) (v := nI 24) rfl rfl (by decide) ?_
  refine R_newiq (q := 27) rfl rfl (by decide) m10 (fun M13 e13 c13 f13 => ?_)
  have h13 : M13.1 a = some (.inr (12, [.ref n, .ref (n + 1), .null, .null, .int 0, .null, .null, .null, .null, .null, .null, .null, .null, .null, .null, .null, .null, .null, .null, .int 0, .int 0, .int 0, .int 0, .int 0, .null, .null, .null, .null, .int 0, .null, .null, .int 0, .null, .null, .null, .int 0, .int 0, .null, .null, .null, .null, .null, .null, .null, .int 0, .null, .int 0, .null, .int 0, .null, .int 0])) := (f13 _ (by omega)).trans h10
  have m13 : M13.2 = (n + 3, w + 1816) := e13
  have d13 : M13.1 (n + 2) = some (.inl (0, 24, .inl (fun _ => 0))) := c13
  refine R_putq (q := 30) rfl rfl rfl h13 (Nat.le_of_ble_eq_true rfl) rfl (fun _ => ⟨rfl, rfl⟩) rfl (fun M14 e14 c14 f14 => ?_)
  dsimp only [List.set] at c14
  have h14 : M14.1 a = some (.inr (12, [.ref n, .ref (n + 1), .ref (n + 2), .null, .int 0, .null, .null, .null, .null, .null, .null, .null, .null, .null, .null, .null, .null, .null, .null, .int 0, .int 0, .int 0, .int 0, .int 0, .null, .null, .null, .null, .int 0, .null, .null, .int 0, .null, .null, .null, .int 0, .int 0, .null, .null, .null, .null, .null, .null, .null, .int 0, .null, .int 0, .null, .int 0, .null, .int 0])) := c14
  have m14 : M14.2 = (n + 3, w + 1816) := e14.trans m13
  refine R_aload_n (q := 31) rfl rfl rfl ?_
  refine R_bipush (q := 33) (v := nI 24) rfl rfl (by decide) ?_
  refine R_newiq (q := 35) rfl rfl (by decide) m14 (fun M17 e17 c17 f17 => ?_)
  have h17 : M17.1 a = some (.inr (12, [.ref n, .ref (n + 1), .ref (n + 2), .null, .int 0, .null, .null, .null, .null, .null, .null, .null, .null, .null, .null, .null, .null, .null, .null, .int 0, .int 0, .int 0, .int 0, .int 0, .null, .null, .null, .null, .int 0, .null, .null, .int 0, .null, .null, .null, .int 0, .int 0, .null, .null, .null, .null, .null, .null, .null, .int 0, .null, .int 0, .null, .int 0, .null, .int 0])) := (f17 _ (by omega)).trans h14
  have m17 : M17.2 = (n + 4, w + 1840) := e17
  have d17 : M17.1 (n + 3) = some (.inl (0, 24, .inl (fun _ => 0))) := c17
  refine R_putq (q := 38) rfl rfl rfl h17 (Nat.le_of_ble_eq_true rfl) rfl (fun _ => ⟨rfl, rfl⟩) rfl (fun M18 e18 c18 f18 => ?_)
  dsimp only [List.set] at c18
  have h18 : M18.1 a = some (.inr (12, [.ref n, .ref (n + 1), .ref (n + 2), .ref (n + 3), .int 0, .null, .null, .null, .null, .null, .null, .null, .null, .null, .null, .null, .null, .null, .null, .int 0, .int 0, .int 0, .int 0, .int 0, .null, .null, .null, .null, .int 0, .null, .null, .int 0, .null, .null, .null, .int 0, .int 0, .null, .null, .null, .null, .null, .null, .null, .int 0, .null, .int 0, .null, .int 0, .null, .int 0])) := c18
  have m18 : M18.2 = (n + 4, w + 1840) := e18.trans m17
  refine R_aload_n (q := 39) rfl rfl rfl ?_
  refine R_bipush (q := 41) (v := nI 6) rfl rfl (by decide) ?_
  refine R_newiq (q := 43) rfl rfl (by decide) m18 (fun M21 e21 c21 f21 => ?_)
  have h21 : M21.1 a = some (.inr (12, [.ref n, .ref (n + 1), .ref (n + 2), .ref (n + 3), .int 0, .null, .null, .null, .null, .null, .null, .null, .null, .null, .null, .null, .null, .null, .null, .int 0, .int 0, .int 0, .int 0, .int 0, .null, .null, .null, .null, .int 0, .null, .null, .int 0, .null, .null, .null, .int 0, .int 0, .null, .null, .null, .null, .null, .null, .null, .int 0, .null, .int 0, .null, .int 0, .null, .int 0])) := (f21 _ (by omega)).trans h18
  have m21 : M21.2 = (n + 5, w + 1846) := e21
  have d21 : M21.1 (n + 4) = some (.inl (0, 6, .inl (fun _ => 0))) := c21
  refine R_putq (q := 46) rfl rfl rfl h21 (Nat.le_of_ble_eq_true rfl) rfl (fun _ => ⟨rfl, rfl⟩) rfl (fun M22 e22 c22 f22 => ?_)
  dsimp only [List.set] at c22
  have h22 : M22.1 a = some (.inr (12, [.ref n, .ref (n + 1), .ref (n + 2), .ref (n + 3), .int 0, .ref (n + 4), .null, .null, .null, .null, .null, .null, .null, .null, .null, .null, .null, .null, .null, .int 0, .int 0, .int 0, .int 0, .int 0, .null, .null, .null, .null, .int 0, .null, .null, .int 0, .null, .null, .null, .int 0, .int 0, .null, .null, .null, .null, .null, .null, .null, .int 0, .null, .int 0, .null, .int 0, .null, .int 0])) := c22
  have m22 : M22.2 = (n + 5, w + 1846) := e22.trans m21
  refine R_aload_n (q := 47) rfl rfl rfl ?_
  refine R_bipush (q := 49) (v := nI 36) rfl rfl (by decide) ?_
  refine R_newiq (q := 51) rfl rfl (by decide) m22 (fun M25 e25 c25 f25 => ?_)
  have h25 : M25.1 a = some (.inr (12, [.ref n, .ref (n + 1), .ref (n + 2), .ref (n + 3), .int 0, .ref (n + 4), .null, .null, .null, .null, .null, .null, .null, .null, .null, .null, .null, .null, .null, .int 0, .int 0, .int 0, .int 0, .int 0, .null, .null, .null, .null, .int 0, .null, .null, .int 0, .null, .null, .null, .int 0, .int 0, .null, .null, .null, .null, .null, .null, .null, .int 0, .null, .int 0, .null, .int 0, .null, .int 0])) := (f25 _ (by omega)).trans h22
  have m25 : M25.2 = (n + 6, w + 1882) := e25
  have d25 : M25.1 (n + 5) = some (.inl (0, 36, .inl (fun _ => 0))) := c25
  refine R_putq (q := 54) rfl rfl rfl h25 (Nat.le_of_ble_eq_true rfl) rfl (fun _ => ⟨rfl, rfl⟩) rfl (fun M26 e26 c26 f26 => ?_)
  dsimp only [List.set] at c26
  have h26 : M26.1 a = some (.inr (12, [.ref n, .ref (n + 1), .ref (n + 2), .ref (n + 3), .int 0, .ref (n + 4), .ref (n + 5), .null, .null, .null, .null, .null, .null, .null, .null, .null, .null, .null, .null, .int 0, .int 0, .int 0, .int 0, .int 0, .null, .null, .null, .null, .int 0, .null, .null, .int 0, .null, .null, .null, .int 0, .int 0, .null, .null, .null, .null, .null, .null, .null, .int 0, .null, .int 0, .null, .int 0, .null, .int 0])) := c26
  have m26 : M26.2 = (n + 6, w + 1882) := e26.trans m25
  refine R_aload_n (q := 55) rfl rfl rfl ?_
  refine R_bipush (q := 57) (v := nI 36) rfl rfl (by decide) ?_
  refine R_newiq (q := 59) rfl rfl (by decide) m26 (fun M29 e29 c29 f29 => ?_)
  have h29 : M29.1 a = some (.inr (12, [.ref n, .ref (n + 1), .ref (n + 2), .ref (n + 3), .int 0, .ref (n + 4), .ref (n + 5), .null, .null, .null, .null, .null, .null, .null, .null, .null, .null, .null, .null, .int 0, .int 0, .int 0, .int 0, .int 0, .null, .null, .null, .null, .int 0, .null, .null, .int 0, .null, .null, .null, .int 0, .int 0, .null, .null, .null, .null, .null, .null, .null, .int 0, .null, .int 0, .null, .int 0, .null, .int 0])) := (f29 _ (by omega)).trans h26
  have m29 : M29.2 = (n + 7, w + 1918) := e29
  have d29 : M29.1 (n + 6) = some (.inl (0, 36, .inl (fun _ => 0))) := c29
  refine R_putq (q := 62) rfl rfl rfl h29 (Nat.le_of_ble_eq_true rfl) rfl (fun _ => ⟨rfl, rfl⟩) rfl (fun M30 e30 c30 f30 => ?_)
  dsimp only [List.set] at c30
  have h30 : M30.1 a = some (.inr (12, [.ref n, .ref (n + 1), .ref (n + 2), .ref (n + 3), .int 0, .ref (n + 4), .ref (n + 5), .ref (n + 6), .null, .null, .null, .null, .null, .null, .null, .null, .null, .null, .null, .int 0, .int 0, .int 0, .int 0, .int 0, .null, .null, .null, .null, .int 0, .null, .null, .int 0, .null, .null, .null, .int 0, .int 0, .null, .null, .null, .null, .null, .null, .null, .int 0, .null, .int 0, .null, .int 0, .null, .int 0])) := c30
  have m30 : M30.2 = (n + 7, w + 1918) := e30.trans m29
  refine R_aload_n (q := 63) rfl rfl rfl ?_
  refine R_bipush (q := 65) (v := nI 36) rfl rfl (by decide) ?_
  refine R_newiq (q := 67) rfl rfl (by decide) m30 (fun M33 e33 c33 f33 => ?_)
  have h33 : M33.1 a = some (.inr (12, [.ref n, .ref (n + 1), .ref (n + 2), .ref (n + 3), .int 0, .ref (n + 4), .ref (n + 5), .ref (n + 6), .null, .null, .null, .null, .null, .null, .null, .null, .null, .null, .null, .int 0, .int 0, .int 0, .int 0, .int 0, .null, .null, .null, .null, .int 0, .null, .null, .int 0, .null, .null, .null, .int 0, .int 0, .null, .null, .null, .null, .null, .null, .null, .int 0, .null, .int 0, .null, .int 0, .null, .int 0])) := (f33 _ (by omega)).trans h30
  have m33 : M33.2 = (n + 8, w + 1954) := e33
  have d33 : M33.1 (n + 7) = some (.inl (0, 36, .inl (fun _ => 0))) := c33
  refine R_putq (q := 70) rfl rfl rfl h33 (Nat.le_of_ble_eq_true rfl) rfl (fun _ => ⟨rfl, rfl⟩) rfl (fun M34 e34 c34 f34 => ?_)
  dsimp only [List.set] at c34
  have h34 : M34.1 a = some (.inr (12, [.ref n, .ref (n + 1), .ref (n + 2), .ref (n + 3), .int 0, .ref (n + 4), .ref (n + 5), .ref (n + 6), .ref (n + 7), .null, .null, .null, .null, .null, .null, .null, .null, .null, .null, .int 0, .int 0, .int 0, .int 0, .int 0, .null, .null, .null, .null, .int 0, .null, .null, .int 0, .null, .null, .null, .int 0, .int 0, .null, .null, .null, .null, .null, .null, .null, .int 0, .null, .int 0, .null, .int 0, .null, .int 0])) := c34
  have m34 : M34.2 = (n + 8, w + 1954) := e34.trans m33
  refine R_aload_n (q := 71) rfl rfl rfl ?_
  refine R_bipush (q := 73) (v := nI 36) rfl rfl (by decide) ?_
  refine R_newiq (q := 75) rfl rfl (by decide) m34 (fun M37 e37 c37 f37 => ?_)
  have h37 : M37.1 a = some (.inr (12, [.ref n, .ref (n + 1), .ref (n + 2), .ref (n + 3), .int 0, .ref (n + 4), .ref (n + 5), .ref (n + 6), .ref (n + 7), .null, .null, .null, .null, .null, .null, .null, .null, .null, .null, .int 0, .int 0, .int 0, .int 0, .int 0, .null, .null, .null, .null, .int 0, .null, .null, .int 0, .null, .null, .null, .int 0, .int 0, .null, .null, .null, .null, .null, .null, .null, .int 0, .null, .int 0, .null, .int 0, .null, .int 0])) := (f37 _ (by omega)).trans h34
  have m37 : M37.2 = (n + 9, w + 1990) := e37
  have d37 : M37.1 (n + 8) = some (.inl (0, 36, .inl (fun _ => 0))) := c37
  refine R_putq (q := 78) rfl rfl rfl h37 (Nat.le_of_ble_eq_true rfl) rfl (fun _ => ⟨rfl, rfl⟩) rfl (fun M38 e38 c38 f38 => ?_)
  dsimp only [List.set] at c38
  have h38 : M38.1 a = some (.inr (12, [.ref n, .ref (n + 1), .ref (n + 2), .ref (n + 3), .int 0, .ref (n + 4), .ref (n + 5), .ref (n + 6), .ref (n + 7), .ref (n + 8), .null, .null, .null, .null, .null, .null, .null, .null, .null, .int 0, .int 0, .int 0, .int 0, .int 0, .null, .null, .null, .null, .int 0, .null, .null, .int 0, .null, .null, .null, .int 0, .int 0, .null, .null, .null, .null, .null, .null, .null, .int 0, .null, .int 0, .null, .int 0, .null, .int 0])) := c38
  have m38 : M38.2 = (n + 9, w + 1990) := e38.trans m37
  refine R_aload_n (q := 79) rfl rfl rfl ?_
  refine R_bipush (q := 81) (v := nI 6) rfl rfl (by decide) ?_
  refine R_newiq (q := 83) rfl rfl (by decide) m38 (fun M41 e41 c41 f41 => ?_)
  have h41 : M41.1 a = some (.inr (12, [.ref n, .ref (n + 1), .ref (n + 2), .ref (n + 3), .int 0, .ref (n + 4), .ref (n + 5), .ref (n + 6), .ref (n + 7), .ref (n + 8), .null, .null, .null, .null, .null, .null, .null, .null, .null, .int 0, .int 0, .int 0, .int 0, .int 0, .null, .null, .null, .null, .int 0, .null, .null, .int 0, .null, .null, .null, .int 0, .int 0, .null, .null, .null, .null, .null, .null, .null, .int 0, .null, .int 0, .null, .int 0, .null, .int 0])) := (f41 _ (by omega)).trans h38
  have m41 : M41.2 = (n + 10, w + 1996) := e41
  have d41 : M41.1 (n + 9) = some (.inl (0, 6, .inl (fun _ => 0))) := c41
  refine R_putq (q := 86) rfl rfl rfl h41 (Nat.le_of_ble_eq_true rfl) rfl (fun _ => ⟨rfl, rfl⟩) rfl (fun M42 e42 c42 f42 => ?_)
  dsimp only [List.set] at c42
  have h42 : M42.1 a = some (.inr (12, [.ref n, .ref (n + 1), .ref (n + 2), .ref (n + 3), .int 0, .ref (n + 4), .ref (n + 5), .ref (n + 6), .ref (n + 7), .ref (n + 8), .ref (n + 9), .null, .null, .null, .null, .null, .null, .null, .null, .int 0, .int 0, .int 0, .int 0, .int 0, .null, .null, .null, .null, .int 0, .null, .null, .int 0, .null, .null, .null, .int 0, .int 0, .null, .null, .null, .null, .null, .null, .null, .int 0, .null, .int 0, .null, .int 0, .null, .int 0])) := c42
  have m42 : M42.2 = (n + 10, w + 1996) := e42.trans m41
  refine R_aload_n (q := 87) rfl rfl rfl ?_
  refine R_bipush (q := 89) (v := nI 24) rfl rfl (by decide) ?_
  refine R_newiq (q := 91) rfl rfl (by decide) m42 (fun M45 e45 c45 f45 => ?_)
  have h45 : M45.1 a = some (.inr (12, [.ref n, .ref (n + 1), .ref (n + 2), .ref (n + 3), .int 0, .ref (n + 4), .ref (n + 5), .ref (n + 6), .ref (n + 7), .ref (n + 8), .ref (n + 9), .null, .null, .null, .null, .null, .null, .null, .null, .int 0, .int 0, .int 0, .int 0, .int 0, .null, .null, .null, .null, .int 0, .null, .null, .int 0, .null, .null, .null, .int 0, .int 0, .null, .null, .null, .null, .null, .null, .null, .int 0, .null, .int 0, .null, .int 0, .null, .int 0])) := (f45 _ (by omega)).trans h42
  have m45 : M45.2 = (n + 11, w + 2020) := e45
  have d45 : M45.1 (n + 10) = some (.inl (0, 24, .inl (fun _ => 0))) := c45
  refine R_putq (q := 94) rfl rfl rfl h45 (Nat.le_of_ble_eq_true rfl) rfl (fun _ => ⟨rfl, rfl⟩) rfl (fun M46 e46 c46 f46 => ?_)
  dsimp only [List.set] at c46
  have h46 : M46.1 a = some (.inr (12, [.ref n, .ref (n + 1), .ref (n + 2), .ref (n + 3), .int 0, .ref (n + 4), .ref (n + 5), .ref (n + 6), .ref (n + 7), .ref (n + 8), .ref (n + 9), .ref (n + 10), .null, .null, .null, .null, .null, .null, .null, .int 0, .int 0, .int 0, .int 0, .int 0, .null, .null, .null, .null, .int 0, .null, .null, .int 0, .null, .null, .null, .int 0, .int 0, .null, .null, .null, .null, .null, .null, .null, .int 0, .null, .int 0, .null, .int 0, .null, .int 0])) := c46
  have m46 : M46.2 = (n + 11, w + 2020) := e46.trans m45
  refine R_aload_n (q := 95) rfl rfl rfl ?_
  refine R_bipush (q := 97) (v := nI 24) rfl rfl (by decide) ?_
  refine R_newiq (q := 99) rfl rfl (by decide) m46 (fun M49 e49 c49 f49 => ?_)
  have h49 : M49.1 a = some (.inr (12, [.ref n, .ref (n + 1), .ref (n + 2), .ref (n + 3), .int 0, .ref (n + 4), .ref (n + 5), .ref (n + 6), .ref (n + 7), .ref (n + 8), .ref (n + 9), .ref (n + 10), .null, .null, .null, .null, .null, .null, .null, .int 0, .int 0, .int 0, .int 0, .int 0, .null, .null, .null, .null, .int 0, .null, .null, .int 0, .null, .null, .null, .int 0, .int 0, .null, .null, .null, .null, .null, .null, .null, .int 0, .null, .int 0, .null, .int 0, .null, .int 0])) := (f49 _ (by omega)).trans h46
  have m49 : M49.2 = (n + 12, w + 2044) := e49
  have d49 : M49.1 (n + 11) = some (.inl (0, 24, .inl (fun _ => 0))) := c49
  refine R_putq (q := 102) rfl rfl rfl h49 (Nat.le_of_ble_eq_true rfl) rfl (fun _ => ⟨rfl, rfl⟩) rfl (fun M50 e50 c50 f50 => ?_)
  dsimp only [List.set] at c50
  have h50 : M50.1 a = some (.inr (12, [.ref n, .ref (n + 1), .ref (n + 2), .ref (n + 3), .int 0, .ref (n + 4), .ref (n + 5), .ref (n + 6), .ref (n + 7), .ref (n + 8), .ref (n + 9), .ref (n + 10), .ref (n + 11), .null, .null, .null, .null, .null, .null, .int 0, .int 0, .int 0, .int 0, .int 0, .null, .null, .null, .null, .int 0, .null, .null, .int 0, .null, .null, .null, .int 0, .int 0, .null, .null, .null, .null, .null, .null, .null, .int 0, .null, .int 0, .null, .int 0, .null, .int 0])) := c50
  have m50 : M50.2 = (n + 12, w + 2044) := e50.trans m49
  refine R_aload_n (q := 103) rfl rfl rfl ?_
  refine R_bipush (q := 105) (v := nI 24) rfl rfl (by decide) ?_
  refine R_newiq (q := 107) rfl rfl (by decide) m50 (fun M53 e53 c53 f53 => ?_)
  have h53 : M53.1 a = some (.inr (12, [.ref n, .ref (n + 1), .ref (n + 2), .ref (n + 3), .int 0, .ref (n + 4), .ref (n + 5), .ref (n + 6), .ref (n + 7), .ref (n + 8), .ref (n + 9), .ref (n + 10), .ref (n + 11), .null, .null, .null, .null, .null, .null, .int 0, .int 0, .int 0, .int 0, .int 0, .null, .null, .null, .null, .int 0, .null, .null, .int 0, .null, .null, .null, .int 0, .int 0, .null, .null, .null, .null, .null, .null, .null, .int 0, .null, .int 0, .null, .int 0, .null, .int 0])) := (f53 _ (by omega)).trans h50
  have m53 : M53.2 = (n + 13, w + 2068) := e53
  have d53 : M53.1 (n + 12) = some (.inl (0, 24, .inl (fun _ => 0))) := c53
  refine R_putq (q := 110) rfl rfl rfl h53 (Nat.le_of_ble_eq_true rfl) rfl (fun _ => ⟨rfl, rfl⟩) rfl (fun M54 e54 c54 f54 => ?_)
  dsimp only [List.set] at c54
  have h54 : M54.1 a = some (.inr (12, [.ref n, .ref (n + 1), .ref (n + 2), .ref (n + 3), .int 0, .ref (n + 4), .ref (n + 5), .ref (n + 6), .ref (n + 7), .ref (n + 8), .ref (n + 9), .ref (n + 10), .ref (n + 11), .ref (n + 12), .null, .null, .null, .null, .null, .int 0, .int 0, .int 0, .int 0, .int 0, .null, .null, .null, .null, .int 0, .null, .null, .int 0, .null, .null, .null, .int 0, .int 0, .null, .null, .null, .null, .null, .null, .null, .int 0, .null, .int 0, .null, .int 0, .null, .int 0])) := c54
  have m54 : M54.2 = (n + 13, w + 2068) := e54.trans m53
  refine R_aload_n (q := 111) rfl rfl rfl ?_
  refine R_bipush (q := 113) (v := nI 24) rfl rfl (by decide) ?_
  refine R_newiq (q := 115) rfl rfl (by decide) m54 (fun M57 e57 c57 f57 => ?_)
  have h57 : M57.1 a = some (.inr (12, [.ref n, .ref (n + 1), .ref (n + 2), .ref (n + 3), .int 0, .ref (n + 4), .ref (n + 5), .ref (n + 6), .ref (n + 7), .ref (n + 8), .ref (n + 9), .ref (n + 10), .ref (n + 11), .ref (n + 12), .null, .null, .null, .null, .null, .int 0, .int 0, .int 0, .int 0, .int 0, .null, .null, .null, .null, .int 0, .null, .null, .int 0, .null, .null, .null, .int 0, .int 0, .null, .null, .null, .null, .null, .null, .null, .int 0, .null, .int 0, .null, .int 0, .null, .int 0])) := (f57 _ (by omega)).trans h54
  have m57 : M57.2 = (n + 14, w + 2092) := e57
  have d57 : M57.1 (n + 13) = some (.inl (0, 24, .inl (fun _ => 0))) := c57
  refine R_putq (q := 118) rfl rfl rfl h57 (Nat.le_of_ble_eq_true rfl) rfl (fun _ => ⟨rfl, rfl⟩) rfl (fun M58 e58 c58 f58 => ?_)
  dsimp only [List.set] at c58
  have h58 : M58.1 a = some (.inr (12, [.ref n, .ref (n + 1), .ref (n + 2), .ref (n + 3), .int 0, .ref (n + 4), .ref (n + 5), .ref (n + 6), .ref (n + 7), .ref (n + 8), .ref (n + 9), .ref (n + 10), .ref (n + 11), .ref (n + 12), .ref (n + 13), .null, .null, .null, .null, .int 0, .int 0, .int 0, .int 0, .int 0, .null, .null, .null, .null, .int 0, .null, .null, .int 0, .null, .null, .null, .int 0, .int 0, .null, .null, .null, .null, .null, .null, .null, .int 0, .null, .int 0, .null, .int 0, .null, .int 0])) := c58
  have m58 : M58.2 = (n + 14, w + 2092) := e58.trans m57
  refine R_aload_n (q := 119) rfl rfl rfl ?_
  refine R_bipush (q := 121) (v := nI 24) rfl rfl (by decide) ?_
  refine R_newiq (q := 123) rfl rfl (by decide) m58 (fun M61 e61 c61 f61 => ?_)
  have h61 : M61.1 a = some (.inr (12, [.ref n, .ref (n + 1), .ref (n + 2), .ref (n + 3), .int 0, .ref (n + 4), .ref (n + 5), .ref (n + 6), .ref (n + 7), .ref (n + 8), .ref (n + 9), .ref (n + 10), .ref (n + 11), .ref (n + 12), .ref (n + 13), .null, .null, .null, .null, .int 0, .int 0, .int 0, .int 0, .int 0, .null, .null, .null, .null, .int 0, .null, .null, .int 0, .null, .null, .null, .int 0, .int 0, .null, .null, .null, .null, .null, .null, .null, .int 0, .null, .int 0, .null, .int 0, .null, .int 0])) := (f61 _ (by omega)).trans h58
  have m61 : M61.2 = (n + 15, w + 2116) := e61
  have d61 : M61.1 (n + 14) = some (.inl (0, 24, .inl (fun _ => 0))) := c61
  refine R_putq (q := 126) rfl rfl rfl h61 (Nat.le_of_ble_eq_true rfl) rfl (fun _ => ⟨rfl, rfl⟩) rfl (fun M62 e62 c62 f62 => ?_)
  dsimp only [List.set] at c62
  have h62 : M62.1 a = some (.inr (12, [.ref n, .ref (n + 1), .ref (n + 2), .ref (n + 3), .int 0, .ref (n + 4), .ref (n + 5), .ref (n + 6), .ref (n + 7), .ref (n + 8), .ref (n + 9), .ref (n + 10), .ref (n + 11), .ref (n + 12), .ref (n + 13), .ref (n + 14), .null, .null, .null, .int 0, .int 0, .int 0, .int 0, .int 0, .null, .null, .null, .null, .int 0, .null, .null, .int 0, .null, .null, .null, .int 0, .int 0, .null, .null, .null, .null, .null, .null, .null, .int 0, .null, .int 0, .null, .int 0, .null, .int 0])) := c62
  have m62 : M62.2 = (n + 15, w + 2116) := e62.trans m61
  refine R_aload_n (q := 127) rfl rfl rfl ?_
  refine R_bipush (q := 129) (v := nI 24) rfl rfl (by decide) ?_
  refine R_newiq (q := 131) rfl rfl (by decide) m62 (fun M65 e65 c65 f65 => ?_)
  have h65 : M65.1 a = some (.inr (12, [.ref n, .ref (n + 1), .ref (n + 2), .ref (n + 3), .int 0, .ref (n + 4), .ref (n + 5), .ref (n + 6), .ref (n + 7), .ref (n + 8), .ref (n + 9), .ref (n + 10), .ref (n + 11), .ref (n + 12), .ref (n + 13), .ref (n + 14), .null, .null, .null, .int 0, .int 0, .int 0, .int 0, .int 0, .null, .null, .null, .null, .int 0, .null, .null, .int 0, .null, .null, .null, .int 0, .int 0, .null, .null, .null, .null, .null, .null, .null, .int 0, .null, .int 0, .null, .int 0, .null, .int 0])) := (f65 _ (by omega)).trans h62
  have m65 : M65.2 = (n + 16, w + 2140) := e65
  have d65 : M65.1 (n + 15) = some (.inl (0, 24, .inl (fun _ => 0))) := c65
  refine R_putq (q := 134) rfl rfl rfl h65 (Nat.le_of_ble_eq_true rfl) rfl (fun _ => ⟨rfl, rfl⟩) rfl (fun M66 e66 c66 f66 => ?_)
  dsimp only [List.set] at c66
  have h66 : M66.1 a = some (.inr (12, [.ref n, .ref (n + 1), .ref (n + 2), .ref (n + 3), .int 0, .ref (n + 4), .ref (n + 5), .ref (n + 6), .ref (n + 7), .ref (n + 8), .ref (n + 9), .ref (n + 10), .ref (n + 11), .ref (n + 12), .ref (n + 13), .ref (n + 14), .ref (n + 15), .null, .null, .int 0, .int 0, .int 0, .int 0, .int 0, .null, .null, .null, .null, .int 0, .null, .null, .int 0, .null, .null, .null, .int 0, .int 0, .null, .null, .null, .null, .null, .null, .null, .int 0, .null, .int 0, .null, .int 0, .null, .int 0])) := c66
  have m66 : M66.2 = (n + 16, w + 2140) := e66.trans m65
  refine R_aload_n (q := 135) rfl rfl rfl ?_
  refine R_bipush (q := 137) (v := nI 24) rfl rfl (by decide) ?_
  refine R_newiq (q := 139) rfl rfl (by decide) m66 (fun M69 e69 c69 f69 => ?_)
  have h69 : M69.1 a = some (.inr (12, [.ref n, .ref (n + 1), .ref (n + 2), .ref (n + 3), .int 0, .ref (n + 4), .ref (n + 5), .ref (n + 6), .ref (n + 7), .ref (n + 8), .ref (n + 9), .ref (n + 10), .ref (n + 11), .ref (n + 12), .ref (n + 13), .ref (n + 14), .ref (n + 15), .null, .null, .int 0, .int 0, .int 0, .int 0, .int 0, .null, .null, .null, .null, .int 0, .null, .null, .int 0, .null, .null, .null, .int 0, .int 0, .null, .null, .null, .null, .null, .null, .null, .int 0, .null, .int 0, .null, .int 0, .null, .int 0])) := (f69 _ (by omega)).trans h66
  have m69 : M69.2 = (n + 17, w + 2164) := e69
  have d69 : M69.1 (n + 16) = some (.inl (0, 24, .inl (fun _ => 0))) := c69
  refine R_putq (q := 142) rfl rfl rfl h69 (Nat.le_of_ble_eq_true rfl) rfl (fun _ => ⟨rfl, rfl⟩) rfl (fun M70 e70 c70 f70 => ?_)
  dsimp only [List.set] at c70
  have h70 : M70.1 a = some (.inr (12, [.ref n, .ref (n + 1), .ref (n + 2), .ref (n + 3), .int 0, .ref (n + 4), .ref (n + 5), .ref (n + 6), .ref (n + 7), .ref (n + 8), .ref (n + 9), .ref (n + 10), .ref (n + 11), .ref (n + 12), .ref (n + 13), .ref (n + 14), .ref (n + 15), .ref (n + 16), .null, .int 0, .int 0, .int 0, .int 0, .int 0, .null, .null, .null, .null, .int 0, .null, .null, .int 0, .null, .null, .null, .int 0, .int 0, .null, .null, .null, .null, .null, .null, .null, .int 0, .null, .int 0, .null, .int 0, .null, .int 0])) := c70
  have m70 : M70.2 = (n + 17, w + 2164) := e70.trans m69
  refine R_aload_n (q := 143) rfl rfl rfl ?_
  refine R_bipush (q := 145) (v := nI 24) rfl rfl (by decide) ?_
  refine R_newiq (q := 147) rfl rfl (by decide) m70 (fun M73 e73 c73 f73 => ?_)
  have h73 : M73.1 a = some (.inr (12, [.ref n, .ref (n + 1), .ref (n + 2), .ref (n + 3), .int 0, .ref (n + 4), .ref (n + 5), .ref (n + 6), .ref (n + 7), .ref (n + 8), .ref (n + 9), .ref (n + 10), .ref (n + 11), .ref (n + 12), .ref (n + 13), .ref (n + 14), .ref (n + 15), .ref (n + 16), .null, .int 0, .int 0, .int 0, .int 0, .int 0, .null, .null, .null, .null, .int 0, .null, .null, .int 0, .null, .null, .null, .int 0, .int 0, .null, .null, .null, .null, .null, .null, .null, .int 0, .null, .int 0, .null, .int 0, .null, .int 0])) := (f73 _ (by omega)).trans h70
  have m73 : M73.2 = (n + 18, w + 2188) := e73
  have d73 : M73.1 (n + 17) = some (.inl (0, 24, .inl (fun _ => 0))) := c73
  refine R_putq (q := 150) rfl rfl rfl h73 (Nat.le_of_ble_eq_true rfl) rfl (fun _ => ⟨rfl, rfl⟩) rfl (fun M74 e74 c74 f74 => ?_)
  dsimp only [List.set] at c74
  have h74 : M74.1 a = some (.inr (12, [.ref n, .ref (n + 1), .ref (n + 2), .ref (n + 3), .int 0, .ref (n + 4), .ref (n + 5), .ref (n + 6), .ref (n + 7), .ref (n + 8), .ref (n + 9), .ref (n + 10), .ref (n + 11), .ref (n + 12), .ref (n + 13), .ref (n + 14), .ref (n + 15), .ref (n + 16), .ref (n + 17), .int 0, .int 0, .int 0, .int 0, .int 0, .null, .null, .null, .null, .int 0, .null, .null, .int 0, .null, .null, .null, .int 0, .int 0, .null, .null, .null, .null, .null, .null, .null, .int 0, .null, .int 0, .null, .int 0, .null, .int 0])) := c74
  have m74 : M74.2 = (n + 18, w + 2188) := e74.trans m73
  refine R_aload_n (q := 151) rfl rfl rfl ?_
  refine R_bipush (q := 153) (v := nI 6) rfl rfl (by decide) ?_
  refine R_newiq (q := 155) rfl rfl (by decide) m74 (fun M77 e77 c77 f77 => ?_)
  have h77 : M77.1 a = some (.inr (12, [.ref n, .ref (n + 1), .ref (n + 2), .ref (n + 3), .int 0, .ref (n + 4), .ref (n + 5), .ref (n + 6), .ref (n + 7), .ref (n + 8), .ref (n + 9), .ref (n + 10), .ref (n + 11), .ref (n + 12), .ref (n + 13), .ref (n + 14), .ref (n + 15), .ref (n + 16), .ref (n + 17), .int 0, .int 0, .int 0, .int 0, .int 0, .null, .null, .null, .null, .int 0, .null, .null, .int 0, .null, .null, .null, .int 0, .int 0, .null, .null, .null, .null, .null, .null, .null, .int 0, .null, .int 0, .null, .int 0, .null, .int 0])) := (f77 _ (by omega)).trans h74
  have m77 : M77.2 = (n + 19, w + 2194) := e77
  have d77 : M77.1 (n + 18) = some (.inl (0, 6, .inl (fun _ => 0))) := c77
  refine R_putq (q := 158) rfl rfl rfl h77 (Nat.le_of_ble_eq_true rfl) rfl (fun _ => ⟨rfl, rfl⟩) rfl (fun M78 e78 c78 f78 => ?_)
  dsimp only [List.set] at c78
  have h78 : M78.1 a = some (.inr (12, [.ref n, .ref (n + 1), .ref (n + 2), .ref (n + 3), .int 0, .ref (n + 4), .ref (n + 5), .ref (n + 6), .ref (n + 7), .ref (n + 8), .ref (n + 9), .ref (n + 10), .ref (n + 11), .ref (n + 12), .ref (n + 13), .ref (n + 14), .ref (n + 15), .ref (n + 16), .ref (n + 17), .int 0, .int 0, .int 0, .int 0, .int 0, .ref (n + 18), .null, .null, .null, .int 0, .null, .null, .int 0, .null, .null, .null, .int 0, .int 0, .null, .null, .null, .null, .null, .null, .null, .int 0, .null, .int 0, .null, .int 0, .null, .int 0])) := c78
  have m78 : M78.2 = (n + 19, w + 2194) := e78.trans m77
  refine R_aload_n (q := 159) rfl rfl rfl ?_
  refine R_sipush (q := 162) (v := nI 2400) rfl rfl (by decide) ?_
  refine R_newiq (q := 164) rfl rfl (by decide) m78 (fun M81 e81 c81 f81 => ?_)
  have h81 : M81.1 a = some (.inr (12, [.ref n, .ref (n + 1), .ref (n + 2), .ref (n + 3), .int 0, .ref (n + 4), .ref (n + 5), .ref (n + 6), .ref (n + 7), .ref (n + 8), .ref (n + 9), .ref (n + 10), .ref (n + 11), .ref (n + 12), .ref (n + 13), .ref (n + 14), .ref (n + 15), .ref (n + 16), .ref (n + 17), .int 0, .int 0, .int 0, .int 0, .int 0, .ref (n + 18), .null, .null, .null, .int 0, .null, .null, .int 0, .null, .null, .null, .int 0, .int 0, .null, .null, .null, .null, .null, .null, .null, .int 0, .null, .int 0, .null, .int 0, .null, .int 0])) := (f81 _ (by omega)).trans h78
  have m81 : M81.2 = (n + 20, w + 4594) := e81
  have d81 : M81.1 (n + 19) = some (.inl (0, 2400, .inl (fun _ => 0))) := c81
  refine R_putq (q := 167) rfl rfl rfl h81 (Nat.le_of_ble_eq_true rfl) rfl (fun _ => ⟨rfl, rfl⟩) rfl (fun M82 e82 c82 f82 => ?_)
  dsimp only [List.set] at c82
  have h82 : M82.1 a = some (.inr (12, [.ref n, .ref (n + 1), .ref (n + 2), .ref (n + 3), .int 0, .ref (n + 4), .ref (n + 5), .ref (n + 6), .ref (n + 7), .ref (n + 8), .ref (n + 9), .ref (n + 10), .ref (n + 11), .ref (n + 12), .ref (n + 13), .ref (n + 14), .ref (n + 15), .ref (n + 16), .ref (n + 17), .int 0, .int 0, .int 0, .int 0, .int 0, .ref (n + 18), .ref (n + 19), .null, .null, .int 0, .null, .null, .int 0, .null, .null, .null, .int 0, .int 0, .null, .null, .null, .null, .null, .null, .null, .int 0, .null, .int 0, .null, .int 0, .null, .int 0])) := c82
  have m82 : M82.2 = (n + 20, w + 4594) := e82.trans m81
  refine R_aload_n (q := 168) rfl rfl rfl ?_
  refine R_bipush (q := 170) (v := nI 32) rfl rfl (by decide) ?_
  refine R_newiq (q := 172) rfl rfl (by decide) m82 (fun M85 e85 c85 f85 => ?_)
  have h85 : M85.1 a = some (.inr (12, [.ref n, .ref (n + 1), .ref (n + 2), .ref (n + 3), .int 0, .ref (n + 4), .ref (n + 5), .ref (n + 6), .ref (n + 7), .ref (n + 8), .ref (n + 9), .ref (n + 10), .ref (n + 11), .ref (n + 12), .ref (n + 13), .ref (n + 14), .ref (n + 15), .ref (n + 16), .ref (n + 17), .int 0, .int 0, .int 0, .int 0, .int 0, .ref (n + 18), .ref (n + 19), .null, .null, .int 0, .null, .null, .int 0, .null, .null, .null, .int 0, .int 0, .null, .null, .null, .null, .null, .null, .null, .int 0, .null, .int 0, .null, .int 0, .null, .int 0])) := (f85 _ (by omega)).trans h82
  have m85 : M85.2 = (n + 21, w + 4626) := e85
  have d85 : M85.1 (n + 20) = some (.inl (0, 32, .inl (fun _ => 0))) := c85
  refine R_dupa (q := 173) rfl rfl ?_
  refine R_iconst (q := 174) (v := nI 0) rfl rfl (by decide) ?_
  refine R_iconst (q := 175) (v := nI 1) rfl rfl (by decide) ?_
  refine R_iastq (q := 176) rfl rfl d85 (in_nI (by decide) (by decide)) (fun M89 e89 c89 f89 => ?_)
  have d89 : M89.1 (n + 20) = some (.inl (0, 32, .inl (upd (fun _ => 0) 0 (nI 1)))) := c89
  have h89 : M89.1 a = some (.inr (12, [.ref n, .ref (n + 1), .ref (n + 2), .ref (n + 3), .int 0, .ref (n + 4), .ref (n + 5), .ref (n + 6), .ref (n + 7), .ref (n + 8), .ref (n + 9), .ref (n + 10), .ref (n + 11), .ref (n + 12), .ref (n + 13), .ref (n + 14), .ref (n + 15), .ref (n + 16), .ref (n + 17), .int 0, .int 0, .int 0, .int 0, .int 0, .ref (n + 18), .ref (n + 19), .null, .null, .int 0, .null, .null, .int 0, .null, .null, .null, .int 0, .int 0, .null, .null, .null, .null, .null, .null, .null, .int 0, .null, .int 0, .null, .int 0, .null, .int 0])) := (f89 _ (by omega)).trans h85
  have m89 : M89.2 = (n + 21, w + 4626) := e89.trans m85
  refine R_dupa (q := 177) rfl rfl ?_
  refine R_iconst (q := 178) (v := nI 1) rfl rfl (by decide) ?_
  refine R_iconst (q := 179) (v := nI 0) rfl rfl (by decide) ?_
  refine R_iastq (q := 180) rfl rfl d89 (in_nI (by decide) (by decide)) (fun M93 e93 c93 f93 => ?_)
  have d93 : M93.1 (n + 20) = some (.inl (0, 32, .inl (upd (upd (fun _ => 0) 0 (nI 1)) 1 (nI 0)))) := c93
  have h93 : M93.1 a = some (.inr (12, [.ref n, .ref (n + 1), .ref (n + 2), .ref (n + 3), .int 0, .ref (n + 4), .ref (n + 5), .ref (n + 6), .ref (n + 7), .ref (n + 8), .ref (n + 9), .ref (n + 10), .ref (n + 11), .ref (n + 12), .ref (n + 13), .ref (n + 14), .ref (n + 15), .ref (n + 16), .ref (n + 17), .int 0, .int 0, .int 0, .int 0, .int 0, .ref (n + 18), .ref (n + 19), .null, .null, .int 0, .null, .null, .int 0, .null, .null, .null, .int 0, .int 0, .null, .null, .null, .null, .null, .null, .null, .int 0, .null, .int 0, .null, .int 0, .null, .int 0])) := (f93 _ (by omega)).trans h89
  have m93 : M93.2 = (n + 21, w + 4626) := e93.trans m89
  refine R_dupa (q := 181) rfl rfl ?_
  refine R_iconst (q := 182) (v := nI 2) rfl rfl (by decide) ?_
  refine R_iconst (q := 183) (v := nI 0) rfl rfl (by decide) ?_
  refine R_iastq (q := 184) rfl rfl d93 (in_nI (by decide) (by decide)) (fun M97 e97 c97 f97 => ?_)
  have d97 : M97.1 (n + 20) = some (.inl (0, 32, .inl (upd (upd (upd (fun _ => 0) 0 (nI 1)) 1 (nI 0)) 2 (nI 0)))) := c97
  have h97 : M97.1 a = some (.inr (12, [.ref n, .ref (n + 1), .ref (n + 2), .ref (n + 3), .int 0, .ref (n + 4), .ref (n + 5), .ref (n + 6), .ref (n + 7), .ref (n + 8), .ref (n + 9), .ref (n + 10), .ref (n + 11), .ref (n + 12), .ref (n + 13), .ref (n + 14), .ref (n + 15), .ref (n + 16), .ref (n + 17), .int 0, .int 0, .int 0, .int 0, .int 0, .ref (n + 18), .ref (n + 19), .null, .null, .int 0, .null, .null, .int 0, .null, .null, .null, .int 0, .int 0, .null, .null, .null, .null, .null, .null, .null, .int 0, .null, .int 0, .null, .int 0, .null, .int 0])) := (f97 _ (by omega)).trans h93
  have m97 : M97.2 = (n + 21, w + 4626) := e97.trans m93
  refine R_dupa (q := 185) rfl rfl ?_
  refine R_iconst (q := 186) (v := nI 3) rfl rfl (by decide) ?_
  refine R_iconst (q := 187) (v := nI 1) rfl rfl (by decide) ?_
  refine R_iastq (q := 188) rfl rfl d97 (in_nI (by decide) (by decide)) (fun M101 e101 c101 f101 => ?_)
  have d101 : M101.1 (n + 20) = some (.inl (0, 32, .inl (upd (upd (upd (upd (fun _ => 0) 0 (nI 1)) 1 (nI 0)) 2 (nI 0)) 3 (nI 1)))) := c101
  have h101 : M101.1 a = some (.inr (12, [.ref n, .ref (n + 1), .ref (n + 2), .ref (n + 3), .int 0, .ref (n + 4), .ref (n + 5), .ref (n + 6), .ref (n + 7), .ref (n + 8), .ref (n + 9), .ref (n + 10), .ref (n + 11), .ref (n + 12), .ref (n + 13), .ref (n + 14), .ref (n + 15), .ref (n + 16), .ref (n + 17), .int 0, .int 0, .int 0, .int 0, .int 0, .ref (n + 18), .ref (n + 19), .null, .null, .int 0, .null, .null, .int 0, .null, .null, .null, .int 0, .int 0, .null, .null, .null, .null, .null, .null, .null, .int 0, .null, .int 0, .null, .int 0, .null, .int 0])) := (f101 _ (by omega)).trans h97
  have m101 : M101.2 = (n + 21, w + 4626) := e101.trans m97
  refine R_dupa (q := 189) rfl rfl ?_
  refine R_iconst (q := 190) (v := nI 4) rfl rfl (by decide) ?_
  refine R_iconst (q := 191) (v := nI 0) rfl rfl (by decide) ?_
  refine R_iastq (q := 192) rfl rfl d101 (in_nI (by decide) (by decide)) (fun M105 e105 c105 f105 => ?_)
  have d105 : M105.1 (n + 20) = some (.inl (0, 32, .inl (upd (upd (upd (upd (upd (fun _ => 0) 0 (nI 1)) 1 (nI 0)) 2 (nI 0)) 3 (nI 1)) 4 (nI 0)))) := c105
  have h105 : M105.1 a = some (.inr (12, [.ref n, .ref (n + 1), .ref (n + 2), .ref (n + 3), .int 0, .ref (n + 4), .ref (n + 5), .ref (n + 6), .ref (n + 7), .ref (n + 8), .ref (n + 9), .ref (n + 10), .ref (n + 11), .ref (n + 12), .ref (n + 13), .ref (n + 14), .ref (n + 15), .ref (n + 16), .ref (n + 17), .int 0, .int 0, .int 0, .int 0, .int 0, .ref (n + 18), .ref (n + 19), .null, .null, .int 0, .null, .null, .int 0, .null, .null, .null, .int 0, .int 0, .null, .null, .null, .null, .null, .null, .null, .int 0, .null, .int 0, .null, .int 0, .null, .int 0])) := (f105 _ (by omega)).trans h101
  have m105 : M105.2 = (n + 21, w + 4626) := e105.trans m101
  refine R_dupa (q := 193) rfl rfl ?_
  refine R_iconst (q := 194) (v := nI 5) rfl rfl (by decide) ?_
  refine R_iconst (q := 195) (v := (-1)) rfl rfl (by decide) ?_
  refine R_iastq (q := 196) rfl rfl d105 (in_nI (by decide) (by decide)) (fun M109 e109 c109 f109 => ?_)
  have d109 : M109.1 (n + 20) = some (.inl (0, 32, .inl (upd (upd (upd (upd (upd (upd (fun _ => 0) 0 (nI 1)) 1 (nI 0)) 2 (nI 0)) 3 (nI 1)) 4 (nI 0)) 5 ((-1))))) := c109
  have h109 : M109.1 a = some (.inr (12, [.ref n, .ref (n + 1), .ref (n + 2), .ref (n + 3), .int 0, .ref (n + 4), .ref (n + 5), .ref (n + 6), .ref (n + 7), .ref (n + 8), .ref (n + 9), .ref (n + 10), .ref (n + 11), .ref (n + 12), .ref (n + 13), .ref (n + 14), .ref (n + 15), .ref (n + 16), .ref (n + 17), .int 0, .int 0, .int 0, .int 0, .int 0, .ref (n + 18), .ref (n + 19), .null, .null, .int 0, .null, .null, .int 0, .null, .null, .null, .int 0, .int 0, .null, .null, .null, .null, .null, .null, .null, .int 0, .null, .int 0, .null, .int 0, .null, .int 0])) := (f109 _ (by omega)).trans h105
  have m109 : M109.2 = (n + 21, w + 4626) := e109.trans m105
  refine R_dupa (q := 197) rfl rfl ?_
  refine R_bipush (q := 199) (v := nI 6) rfl rfl (by decide) ?_
  refine R_iconst (q := 200) (v := nI 1) rfl rfl (by decide) ?_
  refine R_iastq (q := 201) rfl rfl d109 (in_nI (by decide) (by decide)) (fun M113 e113 c113 f113 => ?_)
  have d113 : M113.1 (n + 20) = some (.inl (0, 32, .inl (upd (upd (upd (upd (upd (upd (upd (fun _ => 0) 0 (nI 1)) 1 (nI 0)) 2 (nI 0)) 3 (nI 1)) 4 (nI 0)) 5 ((-1))) 6 (nI 1)))) := c113
  have h113 : M113.1 a = some (.inr (12, [.ref n, .ref (n + 1), .ref (n + 2), .ref (n + 3), .int 0, .ref (n + 4), .ref (n + 5), .ref (n + 6), .ref (n + 7), .ref (n + 8), .ref (n + 9), .ref (n + 10), .ref (n + 11), .ref (n + 12), .ref (n + 13), .ref (n + 14), .ref (n + 15), .ref (n + 16), .ref (n + 17), .int 0, .int 0, .int 0, .int 0, .int 0, .ref (n + 18), .ref (n + 19), .null, .null, .int 0, .null, .null, .int 0, .null, .null, .null, .int 0, .int 0, .null, .null, .null, .null, .null, .null, .null, .int 0, .null, .int 0, .null, .int 0, .null, .int 0])) := (f113 _ (by omega)).trans h109
  have m113 : M113.2 = (n + 21, w + 4626) := e113.trans m109
  refine R_dupa (q := 202) rfl rfl ?_
  refine R_bipush (q := 204) (v := nI 7) rfl rfl (by decide) ?_
  refine R_iconst (q := 205) (v := nI 0) rfl rfl (by decide) ?_
  refine R_iastq (q := 206) rfl rfl d113 (in_nI (by decide) (by decide)) (fun M117 e117 c117 f117 => ?_)
  have d117 : M117.1 (n + 20) = some (.inl (0, 32, .inl (upd (upd (upd (upd (upd (upd (upd (upd (fun _ => 0) 0 (nI 1)) 1 (nI 0)) 2 (nI 0)) 3 (nI 1)) 4 (nI 0)) 5 ((-1))) 6 (nI 1)) 7 (nI 0)))) := c117
  have h117 : M117.1 a = some (.inr (12, [.ref n, .ref (n + 1), .ref (n + 2), .ref (n + 3), .int 0, .ref (n + 4), .ref (n + 5), .ref (n + 6), .ref (n + 7), .ref (n + 8), .ref (n + 9), .ref (n + 10), .ref (n + 11), .ref (n + 12), .ref (n + 13), .ref (n + 14), .ref (n + 15), .ref (n + 16), .ref (n + 17), .int 0, .int 0, .int 0, .int 0, .int 0, .ref (n + 18), .ref (n + 19), .null, .null, .int 0, .null, .null, .int 0, .null, .null, .null, .int 0, .int 0, .null, .null, .null, .null, .null, .null, .null, .int 0, .null, .int 0, .null, .int 0, .null, .int 0])) := (f117 _ (by omega)).trans h113
  have m117 : M117.2 = (n + 21, w + 4626) := e117.trans m113
  refine R_dupa (q := 207) rfl rfl ?_
  refine R_bipush (q := 209) (v := nI 8) rfl rfl (by decide) ?_
  refine R_iconst (q := 210) (v := (-1)) rfl rfl (by decide) ?_
  refine R_iastq (q := 211) rfl rfl d117 (in_nI (by decide) (by decide)) (fun M121 e121 c121 f121 => ?_)
  have d121 : M121.1 (n + 20) = some (.inl (0, 32, .inl (upd (upd (upd (upd (upd (upd (upd (upd (upd (fun _ => 0) 0 (nI 1)) 1 (nI 0)) 2 (nI 0)) 3 (nI 1)) 4 (nI 0)) 5 ((-1))) 6 (nI 1)) 7 (nI 0)) 8 ((-1))))) := c121
  have h121 : M121.1 a = some (.inr (12, [.ref n, .ref (n + 1), .ref (n + 2), .ref (n + 3), .int 0, .ref (n + 4), .ref (n + 5), .ref (n + 6), .ref (n + 7), .ref (n + 8), .ref (n + 9), .ref (n + 10), .ref (n + 11), .ref (n + 12), .ref (n + 13), .ref (n + 14), .ref (n + 15), .ref (n + 16), .ref (n + 17), .int 0, .int 0, .int 0, .int 0, .int 0, .ref (n + 18), .ref (n + 19), .null, .null, .int 0, .null, .null, .int 0, .null, .null, .null, .int 0, .int 0, .null, .null, .null, .null, .null, .null, .null, .int 0, .null, .int 0, .null, .int 0, .null, .int 0])) := (f121 _ (by omega)).trans h117
  have m121 : M121.2 = (n + 21, w + 4626) := e121.trans m117
  refine R_dupa (q := 212) rfl rfl ?_
  refine R_bipush (q := 214) (v := nI 9) rfl rfl (by decide) ?_
  refine R_iconst (q := 215) (v := nI 0) rfl rfl (by decide) ?_
  refine R_iastq (q := 216) rfl rfl d121 (in_nI (by decide) (by decide)) (fun M125 e125 c125 f125 => ?_)
  have d125 : M125.1 (n + 20) = some (.inl (0, 32, .inl (upd (upd (upd (upd (upd (upd (upd (upd (upd (upd (fun _ => 0) 0 (nI 1)) 1 (nI 0)) 2 (nI 0)) 3 (nI 1)) 4 (nI 0)) 5 ((-1))) 6 (nI 1)) 7 (nI 0)) 8 ((-1))) 9 (nI 0)))) := c125
  have h125 : M125.1 a = some (.inr (12, [.ref n, .ref (n + 1), .ref (n + 2), .ref (n + 3), .int 0, .ref (n + 4), .ref (n + 5), .ref (n + 6), .ref (n + 7), .ref (n + 8), .ref (n + 9), .ref (n + 10), .ref (n + 11), .ref (n + 12), .ref (n + 13), .ref (n + 14), .ref (n + 15), .ref (n + 16), .ref (n + 17), .int 0, .int 0, .int 0, .int 0, .int 0, .ref (n + 18), .ref (n + 19), .null, .null, .int 0, .null, .null, .int 0, .null, .null, .null, .int 0, .int 0, .null, .null, .null, .null, .null, .null, .null, .int 0, .null, .int 0, .null, .int 0, .null, .int 0])) := (f125 _ (by omega)).trans h121
  have m125 : M125.2 = (n + 21, w + 4626) := e125.trans m121
  refine R_dupa (q := 217) rfl rfl ?_
  refine R_bipush (q := 219) (v := nI 10) rfl rfl (by decide) ?_
  refine R_iconst (q := 220) (v := nI 0) rfl rfl (by decide) ?_
  refine R_iastq (q := 221) rfl rfl d125 (in_nI (by decide) (by decide)) (fun M129 e129 c129 f129 => ?_)
  have d129 : M129.1 (n + 20) = some (.inl (0, 32, .inl (upd (upd (upd (upd (upd (upd (upd (upd (upd (upd (upd (fun _ => 0) 0 (nI 1)) 1 (nI 0)) 2 (nI 0)) 3 (nI 1)) 4 (nI 0)) 5 ((-1))) 6 (nI 1)) 7 (nI 0)) 8 ((-1))) 9 (nI 0)) 10 (nI 0)))) := c129
  have h129 : M129.1 a = some (.inr (12, [.ref n, .ref (n + 1), .ref (n + 2), .ref (n + 3), .int 0, .ref (n + 4), .ref (n + 5), .ref (n + 6), .ref (n + 7), .ref (n + 8), .ref (n + 9), .ref (n + 10), .ref (n + 11), .ref (n + 12), .ref (n + 13), .ref (n + 14), .ref (n + 15), .ref (n + 16), .ref (n + 17), .int 0, .int 0, .int 0, .int 0, .int 0, .ref (n + 18), .ref (n + 19), .null, .null, .int 0, .null, .null, .int 0, .null, .null, .null, .int 0, .int 0, .null, .null, .null, .null, .null, .null, .null, .int 0, .null, .int 0, .null, .int 0, .null, .int 0])) := (f129 _ (by omega)).trans h125
  have m129 : M129.2 = (n + 21, w + 4626) := e129.trans m125
  refine R_dupa (q := 222) rfl rfl ?_
  refine R_bipush (q := 224) (v := nI 11) rfl rfl (by decide) ?_
  refine R_iconst (q := 225) (v := (-1)) rfl rfl (by decide) ?_
  refine R_iastq (q := 226) rfl rfl d129 (in_nI (by decide) (by decide)) (fun M133 e133 c133 f133 => ?_)
  have d133 : M133.1 (n + 20) = some (.inl (0, 32, .inl (upd (upd (upd (upd (upd (upd (upd (upd (upd (upd (upd (upd (fun _ => 0) 0 (nI 1)) 1 (nI 0)) 2 (nI 0)) 3 (nI 1)) 4 (nI 0)) 5 ((-1))) 6 (nI 1)) 7 (nI 0)) 8 ((-1))) 9 (nI 0)) 10 (nI 0)) 11 ((-1))))) := c133
  have h133 : M133.1 a = some (.inr (12, [.ref n, .ref (n + 1), .ref (n + 2), .ref (n + 3), .int 0, .ref (n + 4), .ref (n + 5), .ref (n + 6), .ref (n + 7), .ref (n + 8), .ref (n + 9), .ref (n + 10), .ref (n + 11), .ref (n + 12), .ref (n + 13), .ref (n + 14), .ref (n + 15), .ref (n + 16), .ref (n + 17), .int 0, .int 0, .int 0, .int 0, .int 0, .ref (n + 18), .ref (n + 19), .null, .null, .int 0, .null, .null, .int 0, .null, .null, .null, .int 0, .int 0, .null, .null, .null, .null, .null, .null, .null, .int 0, .null, .int 0, .null, .int 0, .null, .int 0])) := (f133 _ (by omega)).trans h129
  have m133 : M133.2 = (n + 21, w + 4626) := e133.trans m129
  refine R_dupa (q := 227) rfl rfl ?_
  refine R_bipush (q := 229) (v := nI 12) rfl rfl (by decide) ?_
  refine R_iconst (q := 230) (v := nI 0) rfl rfl (by decide) ?_
  refine R_iastq (q := 231) rfl rfl d133 (in_nI (by decide) (by decide)) (fun M137 e137 c137 f137 => ?_)
  have d137 : M137.1 (n + 20) = some (.inl (0, 32, .inl (upd (upd (upd (upd (upd (upd (upd (upd (upd (upd (upd (upd (upd (fun _ => 0) 0 (nI 1)) 1 (nI 0)) 2 (nI 0)) 3 (nI 1)) 4 (nI 0)) 5 ((-1))) 6 (nI 1)) 7 (nI 0)) 8 ((-1))) 9 (nI 0)) 10 (nI 0)) 11 ((-1))) 12 (nI 0)))) := c137
  have h137 : M137.1 a = some (.inr (12, [.ref n, .ref (n + 1), .ref (n + 2), .ref (n + 3), .int 0, .ref (n + 4), .ref (n + 5), .ref (n + 6), .ref (n + 7), .ref (n + 8), .ref (n + 9), .ref (n + 10), .ref (n + 11), .ref (n + 12), .ref (n + 13), .ref (n + 14), .ref (n + 15), .ref (n + 16), .ref (n + 17), .int 0, .int 0, .int 0, .int 0, .int 0, .ref (n + 18), .ref (n + 19), .null, .null, .int 0, .null, .null, .int 0, .null, .null, .null, .int 0, .int 0, .null, .null, .null, .null, .null, .null, .null, .int 0, .null, .int 0, .null, .int 0, .null, .int 0])) := (f137 _ (by omega)).trans h133
  have m137 : M137.2 = (n + 21, w + 4626) := e137.trans m133
  refine R_dupa (q := 232) rfl rfl ?_
  refine R_bipush (q := 234) (v := nI 13) rfl rfl (by decide) ?_
  refine R_iconst (q := 235) (v := nI 1) rfl rfl (by decide) ?_
  refine R_iastq (q := 236) rfl rfl d137 (in_nI (by decide) (by decide)) (fun M141 e141 c141 f141 => ?_)
  have d141 : M141.1 (n + 20) = some (.inl (0, 32, .inl (upd (upd (upd (upd (upd (upd (upd (upd (upd (upd (upd (upd (upd (upd (fun _ => 0) 0 (nI 1)) 1 (nI 0)) 2 (nI 0)) 3 (nI 1)) 4 (nI 0)) 5 ((-1))) 6 (nI 1)) 7 (nI 0)) 8 ((-1))) 9 (nI 0)) 10 (nI 0)) 11 ((-1))) 12 (nI 0)) 13 (nI 1)))) := c141
  have h141 : M141.1 a = some (.inr (12, [.ref n, .ref (n + 1), .ref (n + 2), .ref (n + 3), .int 0, .ref (n + 4), .ref (n + 5), .ref (n + 6), .ref (n + 7), .ref (n + 8), .ref (n + 9), .ref (n + 10), .ref (n + 11), .ref (n + 12), .ref (n + 13), .ref (n + 14), .ref (n + 15), .ref (n + 16), .ref (n + 17), .int 0, .int 0, .int 0, .int 0, .int 0, .ref (n + 18), .ref (n + 19), .null, .null, .int 0, .null, .null, .int 0, .null, .null, .null, .int 0, .int 0, .null, .null, .null, .null, .null, .null, .null, .int 0, .null, .int 0, .null, .int 0, .null, .int 0])) := (f141 _ (by omega)).trans h137
  have m141 : M141.2 = (n + 21, w + 4626) := e141.trans m137
  refine R_dupa (q := 237) rfl rfl ?_
  refine R_bipush (q := 239) (v := nI 14) rfl rfl (by decide) ?_
  refine R_iconst (q := 240) (v := (-1)) rfl rfl (by decide) ?_
  refine R_iastq (q := 241) rfl rfl d141 (in_nI (by decide) (by decide)) (fun M145 e145 c145 f145 => ?_)
  have d145 : M145.1 (n + 20) = some (.inl (0, 32, .inl (upd (upd (upd (upd (upd (upd (upd (upd (upd (upd (upd (upd (upd (upd (upd (fun _ => 0) 0 (nI 1)) 1 (nI 0)) 2 (nI 0)) 3 (nI 1)) 4 (nI 0)) 5 ((-1))) 6 (nI 1)) 7 (nI 0)) 8 ((-1))) 9 (nI 0)) 10 (nI 0)) 11 ((-1))) 12 (nI 0)) 13 (nI 1)) 14 ((-1))))) := c145
  have h145 : M145.1 a = some (.inr (12, [.ref n, .ref (n + 1), .ref (n + 2), .ref (n + 3), .int 0, .ref (n + 4), .ref (n + 5), .ref (n + 6), .ref (n + 7), .ref (n + 8), .ref (n + 9), .ref (n + 10), .ref (n + 11), .ref (n + 12), .ref (n + 13), .ref (n + 14), .ref (n + 15), .ref (n + 16), .ref (n + 17), .int 0, .int 0, .int 0, .int 0, .int 0, .ref (n + 18), .ref (n + 19), .null, .null, .int 0, .null, .null, .int 0, .null, .null, .null, .int 0, .int 0, .null, .null, .null, .null, .null, .null, .null, .int 0, .null, .int 0, .null, .int 0, .null, .int 0])) := (f145 _ (by omega)).trans h141
  have m145 : M145.2 = (n + 21, w + 4626) := e145.trans m141
  refine R_dupa (q := 242) rfl rfl ?_
  refine R_bipush (q := 244) (v := nI 15) rfl rfl (by decide) ?_
  refine R_iconst (q := 245) (v := nI 0) rfl rfl (by decide) ?_
  refine R_iastq (q := 246) rfl rfl d145 (in_nI (by decide) (by decide)) (fun M149 e149 c149 f149 => ?_)
  have d149 : M149.1 (n + 20) = some (.inl (0, 32, .inl (upd (upd (upd (upd (upd (upd (upd (upd (upd (upd (upd (upd (upd (upd (upd (upd (fun _ => 0) 0 (nI 1)) 1 (nI 0)) 2 (nI 0)) 3 (nI 1)) 4 (nI 0)) 5 ((-1))) 6 (nI 1)) 7 (nI 0)) 8 ((-1))) 9 (nI 0)) 10 (nI 0)) 11 ((-1))) 12 (nI 0)) 13 (nI 1)) 14 ((-1))) 15 (nI 0)))) := c149
  have h149 : M149.1 a = some (.inr (12, [.ref n, .ref (n + 1), .ref (n + 2), .ref (n + 3), .int 0, .ref (n + 4), .ref (n + 5), .ref (n + 6), .ref (n + 7), .ref (n + 8), .ref (n + 9), .ref (n + 10), .ref (n + 11), .ref (n + 12), .ref (n + 13), .ref (n + 14), .ref (n + 15), .ref (n + 16), .ref (n + 17), .int 0, .int 0, .int 0, .int 0, .int 0, .ref (n + 18), .ref (n + 19), .null, .null, .int 0, .null, .null, .int 0, .null, .null, .null, .int 0, .int 0, .null, .null, .null, .null, .null, .null, .null, .int 0, .null, .int 0, .null, .int 0, .null, .int 0])) := (f149 _ (by omega)).trans h145
  have m149 : M149.2 = (n + 21, w + 4626) := e149.trans m145
  refine R_dupa (q := 247) rfl rfl ?_
  refine R_bipush (q := 249) (v := nI 16) rfl rfl (by decide) ?_
  refine R_iconst (q := 250) (v := (-1)) rfl rfl (by decide) ?_
  refine R_iastq (q := 251) rfl rfl d149 (in_nI (by decide) (by decide)) (fun M153 e153 c153 f153 => ?_)
  have d153 : M153.1 (n + 20) = some (.inl (0, 32, .inl (upd (upd (upd (upd (upd (upd (upd (upd (upd (upd (upd (upd (upd (upd (upd (upd (upd (fun _ => 0) 0 (nI 1)) 1 (nI 0)) 2 (nI 0)) 3 (nI 1)) 4 (nI 0)) 5 ((-1))) 6 (nI 1)) 7 (nI 0)) 8 ((-1))) 9 (nI 0)) 10 (nI 0)) 11 ((-1))) 12 (nI 0)) 13 (nI 1)) 14 ((-1))) 15 (nI 0)) 16 ((-1))))) := c153
  have h153 : M153.1 a = some (.inr (12, [.ref n, .ref (n + 1), .ref (n + 2), .ref (n + 3), .int 0, .ref (n + 4), .ref (n + 5), .ref (n + 6), .ref (n + 7), .ref (n + 8), .ref (n + 9), .ref (n + 10), .ref (n + 11), .ref (n + 12), .ref (n + 13), .ref (n + 14), .ref (n + 15), .ref (n + 16), .ref (n + 17), .int 0, .int 0, .int 0, .int 0, .int 0, .ref (n + 18), .ref (n + 19), .null, .null, .int 0, .null, .null, .int 0, .null, .null, .null, .int 0, .int 0, .null, .null, .null, .null, .null, .null, .null, .int 0, .null, .int 0, .null, .int 0, .null, .int 0])) := (f153 _ (by omega)).trans h149
  have m153 : M153.2 = (n + 21, w + 4626) := e153.trans m149
  refine R_dupa (q := 252) rfl rfl ?_
  refine R_bipush (q := 254) (v := nI 17) rfl rfl (by decide) ?_
  refine R_iconst (q := 255) (v := nI 0) rfl rfl (by decide) ?_
  refine R_iastq (q := 256) rfl rfl d153 (in_nI (by decide) (by decide)) (fun M157 e157 c157 f157 => ?_)
  have d157 : M157.1 (n + 20) = some (.inl (0, 32, .inl (upd (upd (upd (upd (upd (upd (upd (upd (upd (upd (upd (upd (upd (upd (upd (upd (upd (upd (fun _ => 0) 0 (nI 1)) 1 (nI 0)) 2 (nI 0)) 3 (nI 1)) 4 (nI 0)) 5 ((-1))) 6 (nI 1)) 7 (nI 0)) 8 ((-1))) 9 (nI 0)) 10 (nI 0)) 11 ((-1))) 12 (nI 0)) 13 (nI 1)) 14 ((-1))) 15 (nI 0)) 16 ((-1))) 17 (nI 0)))) := c157
  have h157 : M157.1 a = some (.inr (12, [.ref n, .ref (n + 1), .ref (n + 2), .ref (n + 3), .int 0, .ref (n + 4), .ref (n + 5), .ref (n + 6), .ref (n + 7), .ref (n + 8), .ref (n + 9), .ref (n + 10), .ref (n + 11), .ref (n + 12), .ref (n + 13), .ref (n + 14), .ref (n + 15), .ref (n + 16), .ref (n + 17), .int 0, .int 0, .int 0, .int 0, .int 0, .ref (n + 18), .ref (n + 19), .null, .null, .int 0, .null, .null, .int 0, .null, .null, .null, .int 0, .int 0, .null, .null, .null, .null, .null, .null, .null, .int 0, .null, .int 0, .null, .int 0, .null, .int 0])) := (f157 _ (by omega)).trans h153
  have m157 : M157.2 = (n + 21, w + 4626) := e157.trans m153
  refine R_dupa (q := 257) rfl rfl ?_
  refine R_bipush (q := 259) (v := nI 18) rfl rfl (by decide) ?_
  refine R_iconst (q := 260) (v := nI 0) rfl rfl (by decide) ?_
  refine R_iastq (q := 261) rfl rfl d157 (in_nI (by decide) (by decide)) (fun M161 e161 c161 f161 => ?_)
  have d161 : M161.1 (n + 20) = some (.inl (0, 32, .inl (upd (upd (upd (upd (upd (upd (upd (upd (upd (upd (upd (upd (upd (upd (upd (upd (upd (upd (upd (fun _ => 0) 0 (nI 1)) 1 (nI 0)) 2 (nI 0)) 3 (nI 1)) 4 (nI 0)) 5 ((-1))) 6 (nI 1)) 7 (nI 0)) 8 ((-1))) 9 (nI 0)) 10 (nI 0)) 11 ((-1))) 12 (nI 0)) 13 (nI 1)) 14 ((-1))) 15 (nI 0)) 16 ((-1))) 17 (nI 0)) 18 (nI 0)))) := c161
  have h161 : M161.1 a = some (.inr (12, [.ref n, .ref (n + 1), .ref (n + 2), .ref (n + 3), .int 0, .ref (n + 4), .ref (n + 5), .ref (n + 6), .ref (n + 7), .ref (n + 8), .ref (n + 9), .ref (n + 10), .ref (n + 11), .ref (n + 12), .ref (n + 13), .ref (n + 14), .ref (n + 15), .ref (n + 16), .ref (n + 17), .int 0, .int 0, .int 0, .int 0, .int 0, .ref (n + 18), .ref (n + 19), .null, .null, .int 0, .null, .null, .int 0, .null, .null, .null, .int 0, .int 0, .null, .null, .null, .null, .null, .null, .null, .int 0, .null, .int 0, .null, .int 0, .null, .int 0])) := (f161 _ (by omega)).trans h157
  have m161 : M161.2 = (n + 21, w + 4626) := e161.trans m157
  refine R_dupa (q := 262) rfl rfl ?_
  refine R_bipush (q := 264) (v := nI 19) rfl rfl (by decide) ?_
  refine R_iconst (q := 265) (v := nI 1) rfl rfl (by decide) ?_
  refine R_iastq (q := 266) rfl rfl d161 (in_nI (by decide) (by decide)) (fun M165 e165 c165 f165 => ?_)
  have d165 : M165.1 (n + 20) = some (.inl (0, 32, .inl (upd (upd (upd (upd (upd (upd (upd (upd (upd (upd (upd (upd (upd (upd (upd (upd (upd (upd (upd (upd (fun _ => 0) 0 (nI 1)) 1 (nI 0)) 2 (nI 0)) 3 (nI 1)) 4 (nI 0)) 5 ((-1))) 6 (nI 1)) 7 (nI 0)) 8 ((-1))) 9 (nI 0)) 10 (nI 0)) 11 ((-1))) 12 (nI 0)) 13 (nI 1)) 14 ((-1))) 15 (nI 0)) 16 ((-1))) 17 (nI 0)) 18 (nI 0)) 19 (nI 1)))) := c165
  have h165 : M165.1 a = some (.inr (12, [.ref n, .ref (n + 1), .ref (n + 2), .ref (n + 3), .int 0, .ref (n + 4), .ref (n + 5), .ref (n + 6), .ref (n + 7), .ref (n + 8), .ref (n + 9), .ref (n + 10), .ref (n + 11), .ref (n + 12), .ref (n + 13), .ref (n + 14), .ref (n + 15), .ref (n + 16), .ref (n + 17), .int 0, .int 0, .int 0, .int 0, .int 0, .ref (n + 18), .ref (n + 19), .null, .null, .int 0, .null, .null, .int 0, .null, .null, .null, .int 0, .int 0, .null, .null, .null, .null, .null, .null, .null, .int 0, .null, .int 0, .null, .int 0, .null, .int 0])) := (f165 _ (by omega)).trans h161
  have m165 : M165.2 = (n + 21, w + 4626) := e165.trans m161
  refine R_dupa (q := 267) rfl rfl ?_
  refine R_bipush (q := 269) (v := nI 20) rfl rfl (by decide) ?_
  refine R_iconst (q := 270) (v := nI 0) rfl rfl (by decide) ?_
  refine R_iastq (q := 271) rfl rfl d165 (in_nI (by decide) (by decide)) (fun M169 e169 c169 f169 => ?_)
  have d169 : M169.1 (n + 20) = some (.inl (0, 32, .inl (upd (upd (upd (upd (upd (upd (upd (upd (upd (upd (upd (upd (upd (upd (upd (upd (upd (upd (upd (upd (upd (fun _ => 0) 0 (nI 1)) 1 (nI 0)) 2 (nI 0)) 3 (nI 1)) 4 (nI 0)) 5 ((-1))) 6 (nI 1)) 7 (nI 0)) 8 ((-1))) 9 (nI 0)) 10 (nI 0)) 11 ((-1))) 12 (nI 0)) 13 (nI 1)) 14 ((-1))) 15 (nI 0)) 16 ((-1))) 17 (nI 0)) 18 (nI 0)) 19 (nI 1)) 20 (nI 0)))) := c169
  have h169 : M169.1 a = some (.inr (12, [.ref n, .ref (n + 1), .ref (n + 2), .ref (n + 3), .int 0, .ref (n + 4), .ref (n + 5), .ref (n + 6), .ref (n + 7), .ref (n + 8), .ref (n + 9), .ref (n + 10), .ref (n + 11), .ref (n + 12), .ref (n + 13), .ref (n + 14), .ref (n + 15), .ref (n + 16), .ref (n + 17), .int 0, .int 0, .int 0, .int 0, .int 0, .ref (n + 18), .ref (n + 19), .null, .null, .int 0, .null, .null, .int 0, .null, .null, .null, .int 0, .int 0, .null, .null, .null, .null, .null, .null, .null, .int 0, .null, .int 0, .null, .int 0, .null, .int 0])) := (f169 _ (by omega)).trans h165
  have m169 : M169.2 = (n + 21, w + 4626) := e169.trans m165
  refine R_dupa (q := 272) rfl rfl ?_
  refine R_bipush (q := 274) (v := nI 21) rfl rfl (by decide) ?_
  refine R_iconst (q := 275) (v := (-1)) rfl rfl (by decide) ?_
  refine R_iastq (q := 276) rfl rfl d169 (in_nI (by decide) (by decide)) (fun M173 e173 c173 f173 => ?_)
  have d173 : M173.1 (n + 20) = some (.inl (0, 32, .inl (upd (upd (upd (upd (upd (upd (upd (upd (upd (upd (upd (upd (upd (upd (upd (upd (upd (upd (upd (upd (upd (upd (fun _ => 0) 0 (nI 1)) 1 (nI 0)) 2 (nI 0)) 3 (nI 1)) 4 (nI 0)) 5 ((-1))) 6 (nI 1)) 7 (nI 0)) 8 ((-1))) 9 (nI 0)) 10 (nI 0)) 11 ((-1))) 12 (nI 0)) 13 (nI 1)) 14 ((-1))) 15 (nI 0)) 16 ((-1))) 17 (nI 0)) 18 (nI 0)) 19 (nI 1)) 20 (nI 0)) 21 ((-1))))) := c173
  have h173 : M173.1 a = some (.inr (12, [.ref n, .ref (n + 1), .ref (n + 2), .ref (n + 3), .int 0, .ref (n + 4), .ref (n + 5), .ref (n + 6), .ref (n + 7), .ref (n + 8), .ref (n + 9), .ref (n + 10), .ref (n + 11), .ref (n + 12), .ref (n + 13), .ref (n + 14), .ref (n + 15), .ref (n + 16), .ref (n + 17), .int 0, .int 0, .int 0, .int 0, .int 0, .ref (n + 18), .ref (n + 19), .null, .null, .int 0, .null, .null, .int 0, .null, .null, .null, .int 0, .int 0, .null, .null, .null, .null, .null, .null, .null, .int 0, .null, .int 0, .null, .int 0, .null, .int 0])) := (f173 _ (by omega)).trans h169
  have m173 : M173.2 = (n + 21, w + 4626) := e173.trans m169
  refine R_dupa (q := 277) rfl rfl ?_
  refine R_bipush (q := 279) (v := nI 22) rfl rfl (by decide) ?_
  refine R_iconst (q := 280) (v := (-1)) rfl rfl (by decide) ?_
  refine R_iastq (q := 281) rfl rfl d173 (in_nI (by decide) (by decide)) (fun M177 e177 c177 f177 => ?_)
  have d177 : M177.1 (n + 20) = some (.inl (0, 32, .inl (upd (upd (upd (upd (upd (upd (upd (upd (upd (upd (upd (upd (upd (upd (upd (upd (upd (upd (upd (upd (upd (upd (upd (fun _ => 0) 0 (nI 1)) 1 (nI 0)) 2 (nI 0)) 3 (nI 1)) 4 (nI 0)) 5 ((-1))) 6 (nI 1)) 7 (nI 0)) 8 ((-1))) 9 (nI 0)) 10 (nI 0)) 11 ((-1))) 12 (nI 0)) 13 (nI 1)) 14 ((-1))) 15 (nI 0)) 16 ((-1))) 17 (nI 0)) 18 (nI 0)) 19 (nI 1)) 20 (nI 0)) 21 ((-1))) 22 ((-1))))) := c177
  have h177 : M177.1 a = some (.inr (12, [.ref n, .ref (n + 1), .ref (n + 2), .ref (n + 3), .int 0, .ref (n + 4), .ref (n + 5), .ref (n + 6), .ref (n + 7), .ref (n + 8), .ref (n + 9), .ref (n + 10), .ref (n + 11), .ref (n + 12), .ref (n + 13), .ref (n + 14), .ref (n + 15), .ref (n + 16), .ref (n + 17), .int 0, .int 0, .int 0, .int 0, .int 0, .ref (n + 18), .ref (n + 19), .null, .null, .int 0, .null, .null, .int 0, .null, .null, .null, .int 0, .int 0, .null, .null, .null, .null, .null, .null, .null, .int 0, .null, .int 0, .null, .int 0, .null, .int 0])) := (f177 _ (by omega)).trans h173
  have m177 : M177.2 = (n + 21, w + 4626) := e177.trans m173
  refine R_dupa (q := 282) rfl rfl ?_
  refine R_bipush (q := 284) (v := nI 23) rfl rfl (by decide) ?_
  refine R_iconst (q := 285) (v := nI 0) rfl rfl (by decide) ?_
  refine R_iastq (q := 286) rfl rfl d177 (in_nI (by decide) (by decide)) (fun M181 e181 c181 f181 => ?_)
  have d181 : M181.1 (n + 20) = some (.inl (0, 32, .inl (upd (upd (upd (upd (upd (upd (upd (upd (upd (upd (upd (upd (upd (upd (upd (upd (upd (upd (upd (upd (upd (upd (upd (upd (fun _ => 0) 0 (nI 1)) 1 (nI 0)) 2 (nI 0)) 3 (nI 1)) 4 (nI 0)) 5 ((-1))) 6 (nI 1)) 7 (nI 0)) 8 ((-1))) 9 (nI 0)) 10 (nI 0)) 11 ((-1))) 12 (nI 0)) 13 (nI 1)) 14 ((-1))) 15 (nI 0)) 16 ((-1))) 17 (nI 0)) 18 (nI 0)) 19 (nI 1)) 20 (nI 0)) 21 ((-1))) 22 ((-1))) 23 (nI 0)))) := c181
  have h181 : M181.1 a = some (.inr (12, [.ref n, .ref (n + 1), .ref (n + 2), .ref (n + 3), .int 0, .ref (n + 4), .ref (n + 5), .ref (n + 6), .ref (n + 7), .ref (n + 8), .ref (n + 9), .ref (n + 10), .ref (n + 11), .ref (n + 12), .ref (n + 13), .ref (n + 14), .ref (n + 15), .ref (n + 16), .ref (n + 17), .int 0, .int 0, .int 0, .int 0, .int 0, .ref (n + 18), .ref (n + 19), .null, .null, .int 0, .null, .null, .int 0, .null, .null, .null, .int 0, .int 0, .null, .null, .null, .null, .null, .null, .null, .int 0, .null, .int 0, .null, .int 0, .null, .int 0])) := (f181 _ (by omega)).trans h177
  have m181 : M181.2 = (n + 21, w + 4626) := e181.trans m177
  refine R_dupa (q := 287) rfl rfl ?_
  refine R_bipush (q := 289) (v := nI 24) rfl rfl (by decide) ?_
  refine R_iconst (q := 290) (v := nI 1) rfl rfl (by decide) ?_
  refine R_iastq (q := 291) rfl rfl d181 (in_nI (by decide) (by decide)) (fun M185 e185 c185 f185 => ?_)
  have d185 : M185.1 (n + 20) = some (.inl (0, 32, .inl (upd (upd (upd (upd (upd (upd (upd (upd (upd (upd (upd (upd (upd (upd (upd (upd (upd (upd (upd (upd (upd (upd (upd (upd (upd (fun _ => 0) 0 (nI 1)) 1 (nI 0)) 2 (nI 0)) 3 (nI 1)) 4 (nI 0)) 5 ((-1))) 6 (nI 1)) 7 (nI 0)) 8 ((-1))) 9 (nI 0)) 10 (nI 0)) 11 ((-1))) 12 (nI 0)) 13 (nI 1)) 14 ((-1))) 15 (nI 0)) 16 ((-1))) 17 (nI 0)) 18 (nI 0)) 19 (nI 1)) 20 (nI 0)) 21 ((-1))) 22 ((-1))) 23 (nI 0)) 24 (nI 1)))) := c185
  have h185 : M185.1 a = some (.inr (12, [.ref n, .ref (n + 1), .ref (n + 2), .ref (n + 3), .int 0, .ref (n + 4), .ref (n + 5), .ref (n + 6), .ref (n + 7), .ref (n + 8), .ref (n + 9), .ref (n + 10), .ref (n + 11), .ref (n + 12), .ref (n + 13), .ref (n + 14), .ref (n + 15), .ref (n + 16), .ref (n + 17), .int 0, .int 0, .int 0, .int 0, .int 0, .ref (n + 18), .ref (n + 19), .null, .null, .int 0, .null, .null, .int 0, .null, .null, .null, .int 0, .int 0, .null, .null, .null, .null, .null, .null, .null, .int 0, .null, .int 0, .null, .int 0, .null, .int 0])) := (f185 _ (by omega)).trans h181
  have m185 : M185.2 = (n + 21, w + 4626) := e185.trans m181
  refine R_dupa (q := 292) rfl rfl ?_
  refine R_bipush (q := 294) (v := nI 25) rfl rfl (by decide) ?_
  refine R_iconst (q := 295) (v := nI 0) rfl rfl (by decide) ?_
  refine R_iastq (q := 296) rfl rfl d185 (in_nI (by decide) (by decide)) (fun M189 e189 c189 f189 => ?_)
  have d189 : M189.1 (n + 20) = some (.inl (0, 32, .inl (upd (upd (upd (upd (upd (upd (upd (upd (upd (upd (upd (upd (upd (upd (upd (upd (upd (upd (upd (upd (upd (upd (upd (upd (upd (upd (fun _ => 0) 0 (nI 1)) 1 (nI 0)) 2 (nI 0)) 3 (nI 1)) 4 (nI 0)) 5 ((-1))) 6 (nI 1)) 7 (nI 0)) 8 ((-1))) 9 (nI 0)) 10 (nI 0)) 11 ((-1))) 12 (nI 0)) 13 (nI 1)) 14 ((-1))) 15 (nI 0)) 16 ((-1))) 17 (nI 0)) 18 (nI 0)) 19 (nI 1)) 20 (nI 0)) 21 ((-1))) 22 ((-1))) 23 (nI 0)) 24 (nI 1)) 25 (nI 0)))) := c189
  have h189 : M189.1 a = some (.inr (12, [.ref n, .ref (n + 1), .ref (n + 2), .ref (n + 3), .int 0, .ref (n + 4), .ref (n + 5), .ref (n + 6), .ref (n + 7), .ref (n + 8), .ref (n + 9), .ref (n + 10), .ref (n + 11), .ref (n + 12), .ref (n + 13), .ref (n + 14), .ref (n + 15), .ref (n + 16), .ref (n + 17), .int 0, .int 0, .int 0, .int 0, .int 0, .ref (n + 18), .ref (n + 19), .null, .null, .int 0, .null, .null, .int 0, .null, .null, .null, .int 0, .int 0, .null, .null, .null, .null, .null, .null, .null, .int 0, .null, .int 0, .null, .int 0, .null, .int 0])) := (f189 _ (by omega)).trans h185
  have m189 : M189.2 = (n + 21, w + 4626) := e189.trans m185
  refine R_dupa (q := 297) rfl rfl ?_
  refine R_bipush (q := 299) (v := nI 26) rfl rfl (by decide) ?_
  refine R_iconst (q := 300) (v := nI 0) rfl rfl (by decide) ?_
  refine R_iastq (q := 301) rfl rfl d189 (in_nI (by decide) (by decide)) (fun M193 e193 c193 f193 => ?_)
  have d193 : M193.1 (n + 20) = some (.inl (0, 32, .inl (upd (upd (upd (upd (upd (upd (upd (upd (upd (upd (upd (upd (upd (upd (upd (upd (upd (upd (upd (upd (upd (upd (upd (upd (upd (upd (upd (fun _ => 0) 0 (nI 1)) 1 (nI 0)) 2 (nI 0)) 3 (nI 1)) 4 (nI 0)) 5 ((-1))) 6 (nI 1)) 7 (nI 0)) 8 ((-1))) 9 (nI 0)) 10 (nI 0)) 11 ((-1))) 12 (nI 0)) 13 (nI 1)) 14 ((-1))) 15 (nI 0)) 16 ((-1))) 17 (nI 0)) 18 (nI 0)) 19 (nI 1)) 20 (nI 0)) 21 ((-1))) 22 ((-1))) 23 (nI 0)) 24 (nI 1)) 25 (nI 0)) 26 (nI 0)))) := c193
  have h193 : M193.1 a = some (.inr (12, [.ref n, .ref (n + 1), .ref (n + 2), .ref (n + 3), .int 0, .ref (n + 4), .ref (n + 5), .ref (n + 6), .ref (n + 7), .ref (n + 8), .ref (n + 9), .ref (n + 10), .ref (n + 11), .ref (n + 12), .ref (n + 13), .ref (n + 14), .ref (n + 15), .ref (n + 16), .ref (n + 17), .int 0, .int 0, .int 0, .int 0, .int 0, .ref (n + 18), .ref (n + 19), .null, .null, .int 0, .null, .null, .int 0, .null, .null, .null, .int 0, .int 0, .null, .null, .null, .null, .null, .null, .null, .int 0, .null, .int 0, .null, .int 0, .null, .int 0])) := (f193 _ (by omega)).trans h189
  have m193 : M193.2 = (n + 21, w + 4626) := e193.trans m189
  refine R_dupa (q := 302) rfl rfl ?_
  refine R_bipush (q := 304) (v := nI 27) rfl rfl (by decide) ?_
  refine R_iconst (q := 305) (v := (-1)) rfl rfl (by decide) ?_
  refine R_iastq (q := 306) rfl rfl d193 (in_nI (by decide) (by decide)) (fun M197 e197 c197 f197 => ?_)
  have d197 : M197.1 (n + 20) = some (.inl (0, 32, .inl (upd (upd (upd (upd (upd (upd (upd (upd (upd (upd (upd (upd (upd (upd (upd (upd (upd (upd (upd (upd (upd (upd (upd (upd (upd (upd (upd (upd (fun _ => 0) 0 (nI 1)) 1 (nI 0)) 2 (nI 0)) 3 (nI 1)) 4 (nI 0)) 5 ((-1))) 6 (nI 1)) 7 (nI 0)) 8 ((-1))) 9 (nI 0)) 10 (nI 0)) 11 ((-1))) 12 (nI 0)) 13 (nI 1)) 14 ((-1))) 15 (nI 0)) 16 ((-1))) 17 (nI 0)) 18 (nI 0)) 19 (nI 1)) 20 (nI 0)) 21 ((-1))) 22 ((-1))) 23 (nI 0)) 24 (nI 1)) 25 (nI 0)) 26 (nI 0)) 27 ((-1))))) := c197
  have h197 : M197.1 a = some (.inr (12, [.ref n, .ref (n + 1), .ref (n + 2), .ref (n + 3), .int 0, .ref (n + 4), .ref (n + 5), .ref (n + 6), .ref (n + 7), .ref (n + 8), .ref (n + 9), .ref (n + 10), .ref (n + 11), .ref (n + 12), .ref (n + 13), .ref (n + 14), .ref (n + 15), .ref (n + 16), .ref (n + 17), .int 0, .int 0, .int 0, .int 0, .int 0, .ref (n + 18), .ref (n + 19), .null, .null, .int 0, .null, .null, .int 0, .null, .null, .null, .int 0, .int 0, .null, .null, .null, .null, .null, .null, .null, .int 0, .null, .int 0, .null, .int 0, .null, .int 0])) := (f197 _ (by omega)).trans h193
  have m197 : M197.2 = (n + 21, w + 4626) := e197.trans m193
  refine R_dupa (q := 307) rfl rfl ?_
  refine R_bipush (q := 309) (v := nI 28) rfl rfl (by decide) ?_
  refine R_iconst (q := 310) (v := nI 0) rfl rfl (by decide) ?_
  refine R_iastq (q := 311) rfl rfl d197 (in_nI (by decide) (by decide)) (fun M201 e201 c201 f201 => ?_)
  have d201 : M201.1 (n + 20) = some (.inl (0, 32, .inl (upd (upd (upd (upd (upd (upd (upd (upd (upd (upd (upd (upd (upd (upd (upd (upd (upd (upd (upd (upd (upd (upd (upd (upd (upd (upd (upd (upd (upd (fun _ => 0) 0 (nI 1)) 1 (nI 0)) 2 (nI 0)) 3 (nI 1)) 4 (nI 0)) 5 ((-1))) 6 (nI 1)) 7 (nI 0)) 8 ((-1))) 9 (nI 0)) 10 (nI 0)) 11 ((-1))) 12 (nI 0)) 13 (nI 1)) 14 ((-1))) 15 (nI 0)) 16 ((-1))) 17 (nI 0)) 18 (nI 0)) 19 (nI 1)) 20 (nI 0)) 21 ((-1))) 22 ((-1))) 23 (nI 0)) 24 (nI 1)) 25 (nI 0)) 26 (nI 0)) 27 ((-1))) 28 (nI 0)))) := c201
  have h201 : M201.1 a = some (.inr (12, [.ref n, .ref (n + 1), .ref (n + 2), .ref (n + 3), .int 0, .ref (n + 4), .ref (n + 5), .ref (n + 6), .ref (n + 7), .ref (n + 8), .ref (n + 9), .ref (n + 10), .ref (n + 11), .ref (n + 12), .ref (n + 13), .ref (n + 14), .ref (n + 15), .ref (n + 16), .ref (n + 17), .int 0, .int 0, .int 0, .int 0, .int 0, .ref (n + 18), .ref (n + 19), .null, .null, .int 0, .null, .null, .int 0, .null, .null, .null, .int 0, .int 0, .null, .null, .null, .null, .null, .null, .null, .int 0, .null, .int 0, .null, .int 0, .null, .int 0])) := (f201 _ (by omega)).trans h197
  have m201 : M201.2 = (n + 21, w + 4626) := e201.trans m197
  refine R_dupa (q := 312) rfl rfl ?_
  refine R_bipush (q := 314) (v := nI 29) rfl rfl (by decide) ?_
  refine R_iconst (q := 315) (v := nI 1) rfl rfl (by decide) ?_
  refine R_iastq (q := 316) rfl rfl d201 (in_nI (by decide) (by decide)) (fun M205 e205 c205 f205 => ?_)
  have d205 : M205.1 (n + 20) = some (.inl (0, 32, .inl (upd (upd (upd (upd (upd (upd (upd (upd (upd (upd (upd (upd (upd (upd (upd (upd (upd (upd (upd (upd (upd (upd (upd (upd (upd (upd (upd (upd (upd (upd (fun _ => 0) 0 (nI 1)) 1 (nI 0)) 2 (nI 0)) 3 (nI 1)) 4 (nI 0)) 5 ((-1))) 6 (nI 1)) 7 (nI 0)) 8 ((-1))) 9 (nI 0)) 10 (nI 0)) 11 ((-1))) 12 (nI 0)) 13 (nI 1)) 14 ((-1))) 15 (nI 0)) 16 ((-1))) 17 (nI 0)) 18 (nI 0)) 19 (nI 1)) 20 (nI 0)) 21 ((-1))) 22 ((-1))) 23 (nI 0)) 24 (nI 1)) 25 (nI 0)) 26 (nI 0)) 27 ((-1))) 28 (nI 0)) 29 (nI 1)))) := c205
  have h205 : M205.1 a = some (.inr (12, [.ref n, .ref (n + 1), .ref (n + 2), .ref (n + 3), .int 0, .ref (n + 4), .ref (n + 5), .ref (n + 6), .ref (n + 7), .ref (n + 8), .ref (n + 9), .ref (n + 10), .ref (n + 11), .ref (n + 12), .ref (n + 13), .ref (n + 14), .ref (n + 15), .ref (n + 16), .ref (n + 17), .int 0, .int 0, .int 0, .int 0, .int 0, .ref (n + 18), .ref (n + 19), .null, .null, .int 0, .null, .null, .int 0, .null, .null, .null, .int 0, .int 0, .null, .null, .null, .null, .null, .null, .null, .int 0, .null, .int 0, .null, .int 0, .null, .int 0])) := (f205 _ (by omega)).trans h201
  have m205 : M205.2 = (n + 21, w + 4626) := e205.trans m201
  refine R_dupa (q := 317) rfl rfl ?_
  refine R_bipush (q := 319) (v := nI 30) rfl rfl (by decide) ?_
  refine R_iconst (q := 320) (v := nI 1) rfl rfl (by decide) ?_
  refine R_iastq (q := 321) rfl rfl d205 (in_nI (by decide) (by decide)) (fun M209 e209 c209 f209 => ?_)
  have d209 : M209.1 (n + 20) = some (.inl (0, 32, .inl (upd (upd (upd (upd (upd (upd (upd (upd (upd (upd (upd (upd (upd (upd (upd (upd (upd (upd (upd (upd (upd (upd (upd (upd (upd (upd (upd (upd (upd (upd (upd (fun _ => 0) 0 (nI 1)) 1 (nI 0)) 2 (nI 0)) 3 (nI 1)) 4 (nI 0)) 5 ((-1))) 6 (nI 1)) 7 (nI 0)) 8 ((-1))) 9 (nI 0)) 10 (nI 0)) 11 ((-1))) 12 (nI 0)) 13 (nI 1)) 14 ((-1))) 15 (nI 0)) 16 ((-1))) 17 (nI 0)) 18 (nI 0)) 19 (nI 1)) 20 (nI 0)) 21 ((-1))) 22 ((-1))) 23 (nI 0)) 24 (nI 1)) 25 (nI 0)) 26 (nI 0)) 27 ((-1))) 28 (nI 0)) 29 (nI 1)) 30 (nI 1)))) := c209
  have h209 : M209.1 a = some (.inr (12, [.ref n, .ref (n + 1), .ref (n + 2), .ref (n + 3), .int 0, .ref (n + 4), .ref (n + 5), .ref (n + 6), .ref (n + 7), .ref (n + 8), .ref (n + 9), .ref (n + 10), .ref (n + 11), .ref (n + 12), .ref (n + 13), .ref (n + 14), .ref (n + 15), .ref (n + 16), .ref (n + 17), .int 0, .int 0, .int 0, .int 0, .int 0, .ref (n + 18), .ref (n + 19), .null, .null, .int 0, .null, .null, .int 0, .null, .null, .null, .int 0, .int 0, .null, .null, .null, .null, .null, .null, .null, .int 0, .null, .int 0, .null, .int 0, .null, .int 0])) := (f209 _ (by omega)).trans h205
  have m209 : M209.2 = (n + 21, w + 4626) := e209.trans m205
  refine R_dupa (q := 322) rfl rfl ?_
  refine R_bipush (q := 324) (v := nI 31) rfl rfl (by decide) ?_
  refine R_iconst (q := 325) (v := nI 0) rfl rfl (by decide) ?_
  refine R_iastq (q := 326) rfl rfl d209 (in_nI (by decide) (by decide)) (fun M213 e213 c213 f213 => ?_)
  have d213 : M213.1 (n + 20) = some (.inl (0, 32, .inl (upd (upd (upd (upd (upd (upd (upd (upd (upd (upd (upd (upd (upd (upd (upd (upd (upd (upd (upd (upd (upd (upd (upd (upd (upd (upd (upd (upd (upd (upd (upd (upd (fun _ => 0) 0 (nI 1)) 1 (nI 0)) 2 (nI 0)) 3 (nI 1)) 4 (nI 0)) 5 ((-1))) 6 (nI 1)) 7 (nI 0)) 8 ((-1))) 9 (nI 0)) 10 (nI 0)) 11 ((-1))) 12 (nI 0)) 13 (nI 1)) 14 ((-1))) 15 (nI 0)) 16 ((-1))) 17 (nI 0)) 18 (nI 0)) 19 (nI 1)) 20 (nI 0)) 21 ((-1))) 22 ((-1))) 23 (nI 0)) 24 (nI 1)) 25 (nI 0)) 26 (nI 0)) 27 ((-1))) 28 (nI 0)) 29 (nI 1)) 30 (nI 1)) 31 (nI 0)))) := c213
  have h213 : M213.1 a = some (.inr (12, [.ref n, .ref (n + 1), .ref (n + 2), .ref (n + 3), .int 0, .ref (n + 4), .ref (n + 5), .ref (n + 6), .ref (n + 7), .ref (n + 8), .ref (n + 9), .ref (n + 10), .ref (n + 11), .ref (n + 12), .ref (n + 13), .ref (n + 14), .ref (n + 15), .ref (n + 16), .ref (n + 17), .int 0, .int 0, .int 0, .int 0, .int 0, .ref (n + 18), .ref (n + 19), .null, .null, .int 0, .null, .null, .int 0, .null, .null, .null, .int 0, .int 0, .null, .null, .null, .null, .null, .null, .null, .int 0, .null, .int 0, .null, .int 0, .null, .int 0])) := (f213 _ (by omega)).trans h209
  have m213 : M213.2 = (n + 21, w + 4626) := e213.trans m209
  refine R_putq (q := 329) rfl rfl rfl h213 (Nat.le_of_ble_eq_true rfl) rfl (fun _ => ⟨rfl, rfl⟩) rfl (fun M214 e214 c214 f214 => ?_)
  dsimp only [List.set] at c214
  have h214 : M214.1 a = some (.inr (12, [.ref n, .ref (n + 1), .ref (n + 2), .ref (n + 3), .int 0, .ref (n + 4), .ref (n + 5), .ref (n + 6), .ref (n + 7), .ref (n + 8), .ref (n + 9), .ref (n + 10), .ref (n + 11), .ref (n + 12), .ref (n + 13), .ref (n + 14), .ref (n + 15), .ref (n + 16), .ref (n + 17), .int 0, .int 0, .int 0, .int 0, .int 0, .ref (n + 18), .ref (n + 19), .ref (n + 20), .null, .int 0, .null, .null, .int 0, .null, .null, .null, .int 0, .int 0, .null, .null, .null, .null, .null, .null, .null, .int 0, .null, .int 0, .null, .int 0, .null, .int 0])) := c214
  have m214 : M214.2 = (n + 21, w + 4626) := e214.trans m213
  refine R_aload_n (q := 330) rfl rfl rfl ?_
  refine R_sipush (q := 333) (v := nI 800) rfl rfl (by decide) ?_
  refine R_newiq (q := 335) rfl rfl (by decide) m214 (fun M217 e217 c217 f217 => ?_)
  have h217 : M217.1 a = some (.inr (12, [.ref n, .ref (n + 1), .ref (n + 2), .ref (n + 3), .int 0, .ref (n + 4), .ref (n + 5), .ref (n + 6), .ref (n + 7), .ref (n + 8), .ref (n + 9), .ref (n + 10), .ref (n + 11), .ref (n + 12), .ref (n + 13), .ref (n + 14), .ref (n + 15), .ref (n + 16), .ref (n + 17), .int 0, .int 0, .int 0, .int 0, .int 0, .ref (n + 18), .ref (n + 19), .ref (n + 20), .null, .int 0, .null, .null, .int 0, .null, .null, .null, .int 0, .int 0, .null, .null, .null, .null, .null, .null, .null, .int 0, .null, .int 0, .null, .int 0, .null, .int 0])) := (f217 _ (by omega)).trans h214
  have m217 : M217.2 = (n + 22, w + 5426) := e217
  have d217 : M217.1 (n + 21) = some (.inl (0, 800, .inl (fun _ => 0))) := c217
  refine R_putq (q := 338) rfl rfl rfl h217 (Nat.le_of_ble_eq_true rfl) rfl (fun _ => ⟨rfl, rfl⟩) rfl (fun M218 e218 c218 f218 => ?_)
  dsimp only [List.set] at c218
  have h218 : M218.1 a = some (.inr (12, [.ref n, .ref (n + 1), .ref (n + 2), .ref (n + 3), .int 0, .ref (n + 4), .ref (n + 5), .ref (n + 6), .ref (n + 7), .ref (n + 8), .ref (n + 9), .ref (n + 10), .ref (n + 11), .ref (n + 12), .ref (n + 13), .ref (n + 14), .ref (n + 15), .ref (n + 16), .ref (n + 17), .int 0, .int 0, .int 0, .int 0, .int 0, .ref (n + 18), .ref (n + 19), .ref (n + 20), .ref (n + 21), .int 0, .null, .null, .int 0, .null, .null, .null, .int 0, .int 0, .null, .null, .null, .null, .null, .null, .null, .int 0, .null, .int 0, .null, .int 0, .null, .int 0])) := c218
  have m218 : M218.2 = (n + 22, w + 5426) := e218.trans m217
  refine R_aload_n (q := 339) rfl rfl rfl ?_
  refine R_sipush (q := 342) (v := nI 289) rfl rfl (by decide) ?_
  refine R_newiq (q := 344) rfl rfl (by decide) m218 (fun M221 e221 c221 f221 => ?_)
  have h221 : M221.1 a = some (.inr (12, [.ref n, .ref (n + 1), .ref (n + 2), .ref (n + 3), .int 0, .ref (n + 4), .ref (n + 5), .ref (n + 6), .ref (n + 7), .ref (n + 8), .ref (n + 9), .ref (n + 10), .ref (n + 11), .ref (n + 12), .ref (n + 13), .ref (n + 14), .ref (n + 15), .ref (n + 16), .ref (n + 17), .int 0, .int 0, .int 0, .int 0, .int 0, .ref (n + 18), .ref (n + 19), .ref (n + 20), .ref (n + 21), .int 0, .null, .null, .int 0, .null, .null, .null, .int 0, .int 0, .null, .null, .null, .null, .null, .null, .null, .int 0, .null, .int 0, .null, .int 0, .null, .int 0])) := (f221 _ (by omega)).trans h218
  have m221 : M221.2 = (n + 23, w + 5715) := e221
  have d221 : M221.1 (n + 22) = some (.inl (0, 289, .inl (fun _ => 0))) := c221
  refine R_putq (q := 347) rfl rfl rfl h221 (Nat.le_of_ble_eq_true rfl) rfl (fun _ => ⟨rfl, rfl⟩) rfl (fun M222 e222 c222 f222 => ?_)
  dsimp only [List.set] at c222
  have h222 : M222.1 a = some (.inr (12, [.ref n, .ref (n + 1), .ref (n + 2), .ref (n + 3), .int 0, .ref (n + 4), .ref (n + 5), .ref (n + 6), .ref (n + 7), .ref (n + 8), .ref (n + 9), .ref (n + 10), .ref (n + 11), .ref (n + 12), .ref (n + 13), .ref (n + 14), .ref (n + 15), .ref (n + 16), .ref (n + 17), .int 0, .int 0, .int 0, .int 0, .int 0, .ref (n + 18), .ref (n + 19), .ref (n + 20), .ref (n + 21), .int 0, .ref (n + 22), .null, .int 0, .null, .null, .null, .int 0, .int 0, .null, .null, .null, .null, .null, .null, .null, .int 0, .null, .int 0, .null, .int 0, .null, .int 0])) := c222
  have m222 : M222.2 = (n + 23, w + 5715) := e222.trans m221
  refine R_aload_n (q := 348) rfl rfl rfl ?_
  refine R_sipush (q := 351) (v := nI 289) rfl rfl (by decide) ?_
  refine R_newiq (q := 353) rfl rfl (by decide) m222 (fun M225 e225 c225 f225 => ?_)
  have h225 : M225.1 a = some (.inr (12, [.ref n, .ref (n + 1), .ref (n + 2), .ref (n + 3), .int 0, .ref (n + 4), .ref (n + 5), .ref (n + 6), .ref (n + 7), .ref (n + 8), .ref (n + 9), .ref (n + 10), .ref (n + 11), .ref (n + 12), .ref (n + 13), .ref (n + 14), .ref (n + 15), .ref (n + 16), .ref (n + 17), .int 0, .int 0, .int 0, .int 0, .int 0, .ref (n + 18), .ref (n + 19), .ref (n + 20), .ref (n + 21), .int 0, .ref (n + 22), .null, .int 0, .null, .null, .null, .int 0, .int 0, .null, .null, .null, .null, .null, .null, .null, .int 0, .null, .int 0, .null, .int 0, .null, .int 0])) := (f225 _ (by omega)).trans h222
  have m225 : M225.2 = (n + 24, w + 6004) := e225
  have d225 : M225.1 (n + 23) = some (.inl (0, 289, .inl (fun _ => 0))) := c225
  refine R_putq (q := 356) rfl rfl rfl h225 (Nat.le_of_ble_eq_true rfl) rfl (fun _ => ⟨rfl, rfl⟩) rfl (fun M226 e226 c226 f226 => ?_)
  dsimp only [List.set] at c226
  have h226 : M226.1 a = some (.inr (12, [.ref n, .ref (n + 1), .ref (n + 2), .ref (n + 3), .int 0, .ref (n + 4), .ref (n + 5), .ref (n + 6), .ref (n + 7), .ref (n + 8), .ref (n + 9), .ref (n + 10), .ref (n + 11), .ref (n + 12), .ref (n + 13), .ref (n + 14), .ref (n + 15), .ref (n + 16), .ref (n + 17), .int 0, .int 0, .int 0, .int 0, .int 0, .ref (n + 18), .ref (n + 19), .ref (n + 20), .ref (n + 21), .int 0, .ref (n + 22), .ref (n + 23), .int 0, .null, .null, .null, .int 0, .int 0, .null, .null, .null, .null, .null, .null, .null, .int 0, .null, .int 0, .null, .int 0, .null, .int 0])) := c226
  have m226 : M226.2 = (n + 24, w + 6004) := e226.trans m225
  refine R_aload_n (q := 357) rfl rfl rfl ?_
  refine R_sipush (q := 360) (v := nI 289) rfl rfl (by decide) ?_
  refine R_newiq (q := 362) rfl rfl (by decide) m226 (fun M229 e229 c229 f229 => ?_)
  have h229 : M229.1 a = some (.inr (12, [.ref n, .ref (n + 1), .ref (n + 2), .ref (n + 3), .int 0, .ref (n + 4), .ref (n + 5), .ref (n + 6), .ref (n + 7), .ref (n + 8), .ref (n + 9), .ref (n + 10), .ref (n + 11), .ref (n + 12), .ref (n + 13), .ref (n + 14), .ref (n + 15), .ref (n + 16), .ref (n + 17), .int 0, .int 0, .int 0, .int 0, .int 0, .ref (n + 18), .ref (n + 19), .ref (n + 20), .ref (n + 21), .int 0, .ref (n + 22), .ref (n + 23), .int 0, .null, .null, .null, .int 0, .int 0, .null, .null, .null, .null, .null, .null, .null, .int 0, .null, .int 0, .null, .int 0, .null, .int 0])) := (f229 _ (by omega)).trans h226
  have m229 : M229.2 = (n + 25, w + 6293) := e229
  have d229 : M229.1 (n + 24) = some (.inl (0, 289, .inl (fun _ => 0))) := c229
  refine R_putq (q := 365) rfl rfl rfl h229 (Nat.le_of_ble_eq_true rfl) rfl (fun _ => ⟨rfl, rfl⟩) rfl (fun M230 e230 c230 f230 => ?_)
  dsimp only [List.set] at c230
  have h230 : M230.1 a = some (.inr (12, [.ref n, .ref (n + 1), .ref (n + 2), .ref (n + 3), .int 0, .ref (n + 4), .ref (n + 5), .ref (n + 6), .ref (n + 7), .ref (n + 8), .ref (n + 9), .ref (n + 10), .ref (n + 11), .ref (n + 12), .ref (n + 13), .ref (n + 14), .ref (n + 15), .ref (n + 16), .ref (n + 17), .int 0, .int 0, .int 0, .int 0, .int 0, .ref (n + 18), .ref (n + 19), .ref (n + 20), .ref (n + 21), .int 0, .ref (n + 22), .ref (n + 23), .int 0, .ref (n + 24), .null, .null, .int 0, .int 0, .null, .null, .null, .null, .null, .null, .null, .int 0, .null, .int 0, .null, .int 0, .null, .int 0])) := c230
  have m230 : M230.2 = (n + 25, w + 6293) := e230.trans m229
  refine R_aload_n (q := 366) rfl rfl rfl ?_
  refine R_sipush (q := 369) (v := nI 289) rfl rfl (by decide) ?_
  refine R_newiq (q := 371) rfl rfl (by decide) m230 (fun M233 e233 c233 f233 => ?_)
  have h233 : M233.1 a = some (.inr (12, [.ref n, .ref (n + 1), .ref (n + 2), .ref (n + 3), .int 0, .ref (n + 4), .ref (n + 5), .ref (n + 6), .ref (n + 7), .ref (n + 8), .ref (n + 9), .ref (n + 10), .ref (n + 11), .ref (n + 12), .ref (n + 13), .ref (n + 14), .ref (n + 15), .ref (n + 16), .ref (n + 17), .int 0, .int 0, .int 0, .int 0, .int 0, .ref (n + 18), .ref (n + 19), .ref (n + 20), .ref (n + 21), .int 0, .ref (n + 22), .ref (n + 23), .int 0, .ref (n + 24), .null, .null, .int 0, .int 0, .null, .null, .null, .null, .null, .null, .null, .int 0, .null, .int 0, .null, .int 0, .null, .int 0])) := (f233 _ (by omega)).trans h230
  have m233 : M233.2 = (n + 26, w + 6582) := e233
  have d233 : M233.1 (n + 25) = some (.inl (0, 289, .inl (fun _ => 0))) := c233
  refine R_putq (q := 374) rfl rfl rfl h233 (Nat.le_of_ble_eq_true rfl) rfl (fun _ => ⟨rfl, rfl⟩) rfl (fun M234 e234 c234 f234 => ?_)
  dsimp only [List.set] at c234
  have h234 : M234.1 a = some (.inr (12, [.ref n, .ref (n + 1), .ref (n + 2), .ref (n + 3), .int 0, .ref (n + 4), .ref (n + 5), .ref (n + 6), .ref (n + 7), .ref (n + 8), .ref (n + 9), .ref (n + 10), .ref (n + 11), .ref (n + 12), .ref (n + 13), .ref (n + 14), .ref (n + 15), .ref (n + 16), .ref (n + 17), .int 0, .int 0, .int 0, .int 0, .int 0, .ref (n + 18), .ref (n + 19), .ref (n + 20), .ref (n + 21), .int 0, .ref (n + 22), .ref (n + 23), .int 0, .ref (n + 24), .ref (n + 25), .null, .int 0, .int 0, .null, .null, .null, .null, .null, .null, .null, .int 0, .null, .int 0, .null, .int 0, .null, .int 0])) := c234
  have m234 : M234.2 = (n + 26, w + 6582) := e234.trans m233
  refine R_aload_n (q := 375) rfl rfl rfl ?_
  refine R_sipush (q := 378) (v := nI 289) rfl rfl (by decide) ?_
  refine R_newiq (q := 380) rfl rfl (by decide) m234 (fun M237 e237 c237 f237 => ?_)
  have h237 : M237.1 a = some (.inr (12, [.ref n, .ref (n + 1), .ref (n + 2), .ref (n + 3), .int 0, .ref (n + 4), .ref (n + 5), .ref (n + 6), .ref (n + 7), .ref (n + 8), .ref (n + 9), .ref (n + 10), .ref (n + 11), .ref (n + 12), .ref (n + 13), .ref (n + 14), .ref (n + 15), .ref (n + 16), .ref (n + 17), .int 0, .int 0, .int 0, .int 0, .int 0, .ref (n + 18), .ref (n + 19), .ref (n + 20), .ref (n + 21), .int 0, .ref (n + 22), .ref (n + 23), .int 0, .ref (n + 24), .ref (n + 25), .null, .int 0, .int 0, .null, .null, .null, .null, .null, .null, .null, .int 0, .null, .int 0, .null, .int 0, .null, .int 0])) := (f237 _ (by omega)).trans h234
  have m237 : M237.2 = (n + 27, w + 6871) := e237
  have d237 : M237.1 (n + 26) = some (.inl (0, 289, .inl (fun _ => 0))) := c237
  refine R_putq (q := 383) rfl rfl rfl h237 (Nat.le_of_ble_eq_true rfl) rfl (fun _ => ⟨rfl, rfl⟩) rfl (fun M238 e238 c238 f238 => ?_)
  dsimp only [List.set] at c238
  have h238 : M238.1 a = some (.inr (12, [.ref n, .ref (n + 1), .ref (n + 2), .ref (n + 3), .int 0, .ref (n + 4), .ref (n + 5), .ref (n + 6), .ref (n + 7), .ref (n + 8), .ref (n + 9), .ref (n + 10), .ref (n + 11), .ref (n + 12), .ref (n + 13), .ref (n + 14), .ref (n + 15), .ref (n + 16), .ref (n + 17), .int 0, .int 0, .int 0, .int 0, .int 0, .ref (n + 18), .ref (n + 19), .ref (n + 20), .ref (n + 21), .int 0, .ref (n + 22), .ref (n + 23), .int 0, .ref (n + 24), .ref (n + 25), .ref (n + 26), .int 0, .int 0, .null, .null, .null, .null, .null, .null, .null, .int 0, .null, .int 0, .null, .int 0, .null, .int 0])) := c238
  have m238 : M238.2 = (n + 27, w + 6871) := e238.trans m237
  refine R_aload_n (q := 384) rfl rfl rfl ?_
  refine R_sipush (q := 387) (v := nI 272) rfl rfl (by decide) ?_
  refine R_newzq (q := 389) rfl rfl (by decide) m238 (fun M241 e241 c241 f241 => ?_)
  have h241 : M241.1 a = some (.inr (12, [.ref n, .ref (n + 1), .ref (n + 2), .ref (n + 3), .int 0, .ref (n + 4), .ref (n + 5), .ref (n + 6), .ref (n + 7), .ref (n + 8), .ref (n + 9), .ref (n + 10), .ref (n + 11), .ref (n + 12), .ref (n + 13), .ref (n + 14), .ref (n + 15), .ref (n + 16), .ref (n + 17), .int 0, .int 0, .int 0, .int 0, .int 0, .ref (n + 18), .ref (n + 19), .ref (n + 20), .ref (n + 21), .int 0, .ref (n + 22), .ref (n + 23), .int 0, .ref (n + 24), .ref (n + 25), .ref (n + 26), .int 0, .int 0, .null, .null, .null, .null, .null, .null, .null, .int 0, .null, .int 0, .null, .int 0, .null, .int 0])) := (f241 _ (by omega)).trans h238
  have m241 : M241.2 = (n + 28, w + 7143) := e241
  have d241 : M241.1 (n + 27) = some (.inl (1, 272, .inl (fun _ => 0))) := c241
  refine R_putq (q := 392) rfl rfl rfl h241 (Nat.le_of_ble_eq_true rfl) rfl (fun _ => ⟨rfl, rfl⟩) rfl (fun M242 e242 c242 f242 => ?_)
  dsimp only [List.set] at c242
  have h242 : M242.1 a = some (.inr (12, [.ref n, .ref (n + 1), .ref (n + 2), .ref (n + 3), .int 0, .ref (n + 4), .ref (n + 5), .ref (n + 6), .ref (n + 7), .ref (n + 8), .ref (n + 9), .ref (n + 10), .ref (n + 11), .ref (n + 12), .ref (n + 13), .ref (n + 14), .ref (n + 15), .ref (n + 16), .ref (n + 17), .int 0, .int 0, .int 0, .int 0, .int 0, .ref (n + 18), .ref (n + 19), .ref (n + 20), .ref (n + 21), .int 0, .ref (n + 22), .ref (n + 23), .int 0, .ref (n + 24), .ref (n + 25), .ref (n + 26), .int 0, .int 0, .ref (n + 27), .null, .null, .null, .null, .null, .null, .int 0, .null, .int 0, .null, .int 0, .null, .int 0])) := c242
  have m242 : M242.2 = (n + 28, w + 7143) := e242.trans m241
  refine R_aload_n (q := 393) rfl rfl rfl ?_
  refine R_sipush (q := 396) (v := nI 272) rfl rfl (by decide) ?_
  refine R_newzq (q := 398) rfl rfl (by decide) m242 (fun M245 e245 c245 f245 => ?_)
  have h245 : M245.1 a = some (.inr (12, [.ref n, .ref (n + 1), .ref (n + 2), .ref (n + 3), .int 0, .ref (n + 4), .ref (n + 5), .ref (n + 6), .ref (n + 7), .ref (n + 8), .ref (n + 9), .ref (n + 10), .ref (n + 11), .ref (n + 12), .ref (n + 13), .ref (n + 14), .ref (n + 15), .ref (n + 16), .ref (n + 17), .int 0, .int 0, .int 0, .int 0, .int 0, .ref (n + 18), .ref (n + 19), .ref (n + 20), .ref (n + 21), .int 0, .ref (n + 22), .ref (n + 23), .int 0, .ref (n + 24), .ref (n + 25), .ref (n + 26), .int 0, .int 0, .ref (n + 27), .null, .null, .null, .null, .null, .null, .int 0, .null, .int 0, .null, .int 0, .null, .int 0])) := (f245 _ (by omega)).trans h242
  have m245 : M245.2 = (n + 29, w + 7415) := e245
  have d245 : M245.1 (n + 28) = some (.inl (1, 272, .inl (fun _ => 0))) := c245
  refine R_putq (q := 401) rfl rfl rfl h245 (Nat.le_of_ble_eq_true rfl) rfl (fun _ => ⟨rfl, rfl⟩) rfl (fun M246 e246 c246 f246 => ?_)
  dsimp only [List.set] at c246
  have h246 : M246.1 a = some (.inr (12, [.ref n, .ref (n + 1), .ref (n + 2), .ref (n + 3), .int 0, .ref (n + 4), .ref (n + 5), .ref (n + 6), .ref (n + 7), .ref (n + 8), .ref (n + 9), .ref (n + 10), .ref (n + 11), .ref (n + 12), .ref (n + 13), .ref (n + 14), .ref (n + 15), .ref (n + 16), .ref (n + 17), .int 0, .int 0, .int 0, .int 0, .int 0, .ref (n + 18), .ref (n + 19), .ref (n + 20), .ref (n + 21), .int 0, .ref (n + 22), .ref (n + 23), .int 0, .ref (n + 24), .ref (n + 25), .ref (n + 26), .int 0, .int 0, .ref (n + 27), .ref (n + 28), .null, .null, .null, .null, .null, .int 0, .null, .int 0, .null, .int 0, .null, .int 0])) := c246
  have m246 : M246.2 = (n + 29, w + 7415) := e246.trans m245
  refine R_aload_n (q := 402) rfl rfl rfl ?_
  refine R_sipush (q := 405) (v := nI 289) rfl rfl (by decide) ?_
  refine R_newzq (q := 407) rfl rfl (by decide) m246 (fun M249 e249 c249 f249 => ?_)
  have h249 : M249.1 a = some (.inr (12, [.ref n, .ref (n + 1), .ref (n + 2), .ref (n + 3), .int 0, .ref (n + 4), .ref (n + 5), .ref (n + 6), .ref (n + 7), .ref (n + 8), .ref (n + 9), .ref (n + 10), .ref (n + 11), .ref (n + 12), .ref (n + 13), .ref (n + 14), .ref (n + 15), .ref (n + 16), .ref (n + 17), .int 0, .int 0, .int 0, .int 0, .int 0, .ref (n + 18), .ref (n + 19), .ref (n + 20), .ref (n + 21), .int 0, .ref (n + 22), .ref (n + 23), .int 0, .ref (n + 24), .ref (n + 25), .ref (n + 26), .int 0, .int 0, .ref (n + 27), .ref (n + 28), .null, .null, .null, .null, .null, .int 0, .null, .int 0, .null, .int 0, .null, .int 0])) := (f249 _ (by omega)).trans h246
  have m249 : M249.2 = (n + 30, w + 7704) := e249
  have d249 : M249.1 (n + 29) = some (.inl (1, 289, .inl (fun _ => 0))) := c249
  refine R_putq (q := 410) rfl rfl rfl h249 (Nat.le_of_ble_eq_true rfl) rfl (fun _ => ⟨rfl, rfl⟩) rfl (fun M250 e250 c250 f250 => ?_)
  dsimp only [List.set] at c250
  have h250 : M250.1 a = some (.inr (12, [.ref n, .ref (n + 1), .ref (n + 2), .ref (n + 3), .int 0, .ref (n + 4), .ref (n + 5), .ref (n + 6), .ref (n + 7), .ref (n + 8), .ref (n + 9), .ref (n + 10), .ref (n + 11), .ref (n + 12), .ref (n + 13), .ref (n + 14), .ref (n + 15), .ref (n + 16), .ref (n + 17), .int 0, .int 0, .int 0, .int 0, .int 0, .ref (n + 18), .ref (n + 19), .ref (n + 20), .ref (n + 21), .int 0, .ref (n + 22), .ref (n + 23), .int 0, .ref (n + 24), .ref (n + 25), .ref (n + 26), .int 0, .int 0, .ref (n + 27), .ref (n + 28), .ref (n + 29), .null, .null, .null, .null, .int 0, .null, .int 0, .null, .int 0, .null, .int 0])) := c250
  have m250 : M250.2 = (n + 30, w + 7704) := e250.trans m249
  refine R_aload_n (q := 411) rfl rfl rfl ?_
  refine R_sipush (q := 414) (v := nI 289) rfl rfl (by decide) ?_
  refine R_newzq (q := 416) rfl rfl (by decide) m250 (fun M253 e253 c253 f253 => ?_)
  have h253 : M253.1 a = some (.inr (12, [.ref n, .ref (n + 1), .ref (n + 2), .ref (n + 3), .int 0, .ref (n + 4), .ref (n + 5), .ref (n + 6), .ref (n + 7), .ref (n + 8), .ref (n + 9), .ref (n + 10), .ref (n + 11), .ref (n + 12), .ref (n + 13), .ref (n + 14), .ref (n + 15), .ref (n + 16), .ref (n + 17), .int 0, .int 0, .int 0, .int 0, .int 0, .ref (n + 18), .ref (n + 19), .ref (n + 20), .ref (n + 21), .int 0, .ref (n + 22), .ref (n + 23), .int 0, .ref (n + 24), .ref (n + 25), .ref (n + 26), .int 0, .int 0, .ref (n + 27), .ref (n + 28), .ref (n + 29), .null, .null, .null, .null, .int 0, .null, .int 0, .null, .int 0, .null, .int 0])) := (f253 _ (by omega)).trans h250
  have m253 : M253.2 = (n + 31, w + 7993) := e253
  have d253 : M253.1 (n + 30) = some (.inl (1, 289, .inl (fun _ => 0))) := c253
  refine R_putq (q := 419) rfl rfl rfl h253 (Nat.le_of_ble_eq_true rfl) rfl (fun _ => ⟨rfl, rfl⟩) rfl (fun M254 e254 c254 f254 => ?_)
  dsimp only [List.set] at c254
  have h254 : M254.1 a = some (.inr (12, [.ref n, .ref (n + 1), .ref (n + 2), .ref (n + 3), .int 0, .ref (n + 4), .ref (n + 5), .ref (n + 6), .ref (n + 7), .ref (n + 8), .ref (n + 9), .ref (n + 10), .ref (n + 11), .ref (n + 12), .ref (n + 13), .ref (n + 14), .ref (n + 15), .ref (n + 16), .ref (n + 17), .int 0, .int 0, .int 0, .int 0, .int 0, .ref (n + 18), .ref (n + 19), .ref (n + 20), .ref (n + 21), .int 0, .ref (n + 22), .ref (n + 23), .int 0, .ref (n + 24), .ref (n + 25), .ref (n + 26), .int 0, .int 0, .ref (n + 27), .ref (n + 28), .ref (n + 29), .ref (n + 30), .null, .null, .null, .int 0, .null, .int 0, .null, .int 0, .null, .int 0])) := c254
  have m254 : M254.2 = (n + 31, w + 7993) := e254.trans m253
  refine R_aload_n (q := 420) rfl rfl rfl ?_
  refine R_sipush (q := 423) (v := nI 256) rfl rfl (by decide) ?_
  refine R_newiq (q := 425) rfl rfl (by decide) m254 (fun M257 e257 c257 f257 => ?_)
  have h257 : M257.1 a = some (.inr (12, [.ref n, .ref (n + 1), .ref (n + 2), .ref (n + 3), .int 0, .ref (n + 4), .ref (n + 5), .ref (n + 6), .ref (n + 7), .ref (n + 8), .ref (n + 9), .ref (n + 10), .ref (n + 11), .ref (n + 12), .ref (n + 13), .ref (n + 14), .ref (n + 15), .ref (n + 16), .ref (n + 17), .int 0, .int 0, .int 0, .int 0, .int 0, .ref (n + 18), .ref (n + 19), .ref (n + 20), .ref (n + 21), .int 0, .ref (n + 22), .ref (n + 23), .int 0, .ref (n + 24), .ref (n + 25), .ref (n + 26), .int 0, .int 0, .ref (n + 27), .ref (n + 28), .ref (n + 29), .ref (n + 30), .null, .null, .null, .int 0, .null, .int 0, .null, .int 0, .null, .int 0])) := (f257 _ (by omega)).trans h254
  have m257 : M257.2 = (n + 32, w + 8249) := e257
  have d257 : M257.1 (n + 31) = some (.inl (0, 256, .inl (fun _ => 0))) := c257
  refine R_putq (q := 428) rfl rfl rfl h257 (Nat.le_of_ble_eq_true rfl) rfl (fun _ => ⟨rfl, rfl⟩) rfl (fun M258 e258 c258 f258 => ?_)
  dsimp only [List.set] at c258
  have h258 : M258.1 a = some (.inr (12, [.ref n, .ref (n + 1), .ref (n + 2), .ref (n + 3), .int 0, .ref (n + 4), .ref (n + 5), .ref (n + 6), .ref (n + 7), .ref (n + 8), .ref (n + 9), .ref (n + 10), .ref (n + 11), .ref (n + 12), .ref (n + 13), .ref (n + 14), .ref (n + 15), .ref (n + 16), .ref (n + 17), .int 0, .int 0, .int 0, .int 0, .int 0, .ref (n + 18), .ref (n + 19), .ref (n + 20), .ref (n + 21), .int 0, .ref (n + 22), .ref (n + 23), .int 0, .ref (n + 24), .ref (n + 25), .ref (n + 26), .int 0, .int 0, .ref (n + 27), .ref (n + 28), .ref (n + 29), .ref (n + 30), .ref (n + 31), .null, .null, .int 0, .null, .int 0, .null, .int 0, .null, .int 0])) := c258
  have m258 : M258.2 = (n + 32, w + 8249) := e258.trans m257
  refine R_aload_n (q := 429) rfl rfl rfl ?_
  refine R_sipush (q := 432) (v := nI 256) rfl rfl (by decide) ?_
  refine R_newzq (q := 434) rfl rfl (by decide) m258 (fun M261 e261 c261 f261 => ?_)
  have h261 : M261.1 a = some (.inr (12, [.ref n, .ref (n + 1), .ref (n + 2), .ref (n + 3), .int 0, .ref (n + 4), .ref (n + 5), .ref (n + 6), .ref (n + 7), .ref (n + 8), .ref (n + 9), .ref (n + 10), .ref (n + 11), .ref (n + 12), .ref (n + 13), .ref (n + 14), .ref (n + 15), .ref (n + 16), .ref (n + 17), .int 0, .int 0, .int 0, .int 0, .int 0, .ref (n + 18), .ref (n + 19), .ref (n + 20), .ref (n + 21), .int 0, .ref (n + 22), .ref (n + 23), .int 0, .ref (n + 24), .ref (n + 25), .ref (n + 26), .int 0, .int 0, .ref (n + 27), .ref (n + 28), .ref (n + 29), .ref (n + 30), .ref (n + 31), .null, .null, .int 0, .null, .int 0, .null, .int 0, .null, .int 0])) := (f261 _ (by omega)).trans h258
  have m261 : M261.2 = (n + 33, w + 8505) := e261
  have d261 : M261.1 (n + 32) = some (.inl (1, 256, .inl (fun _ => 0))) := c261
  refine R_putq (q := 437) rfl rfl rfl h261 (Nat.le_of_ble_eq_true rfl) rfl (fun _ => ⟨rfl, rfl⟩) rfl (fun M262 e262 c262 f262 => ?_)
  dsimp only [List.set] at c262
  have h262 : M262.1 a = some (.inr (12, [.ref n, .ref (n + 1), .ref (n + 2), .ref (n + 3), .int 0, .ref (n + 4), .ref (n + 5), .ref (n + 6), .ref (n + 7), .ref (n + 8), .ref (n + 9), .ref (n + 10), .ref (n + 11), .ref (n + 12), .ref (n + 13), .ref (n + 14), .ref (n + 15), .ref (n + 16), .ref (n + 17), .int 0, .int 0, .int 0, .int 0, .int 0, .ref (n + 18), .ref (n + 19), .ref (n + 20), .ref (n + 21), .int 0, .ref (n + 22), .ref (n + 23), .int 0, .ref (n + 24), .ref (n + 25), .ref (n + 26), .int 0, .int 0, .ref (n + 27), .ref (n + 28), .ref (n + 29), .ref (n + 30), .ref (n + 31), .ref (n + 32), .null, .int 0, .null, .int 0, .null, .int 0, .null, .int 0])) := c262
  have m262 : M262.2 = (n + 33, w + 8505) := e262.trans m261
  refine R_aload_n (q := 438) rfl rfl rfl ?_
  refine R_sipush (q := 441) (v := nI 1024) rfl rfl (by decide) ?_
  refine R_newiq (q := 443) rfl rfl (by decide) m262 (fun M265 e265 c265 f265 => ?_)
  have h265 : M265.1 a = some (.inr (12, [.ref n, .ref (n + 1), .ref (n + 2), .ref (n + 3), .int 0, .ref (n + 4), .ref (n + 5), .ref (n + 6), .ref (n + 7), .ref (n + 8), .ref (n + 9), .ref (n + 10), .ref (n + 11), .ref (n + 12), .ref (n + 13), .ref (n + 14), .ref (n + 15), .ref (n + 16), .ref (n + 17), .int 0, .int 0, .int 0, .int 0, .int 0, .ref (n + 18), .ref (n + 19), .ref (n + 20), .ref (n + 21), .int 0, .ref (n + 22), .ref (n + 23), .int 0, .ref (n + 24), .ref (n + 25), .ref (n + 26), .int 0, .int 0, .ref (n + 27), .ref (n + 28), .ref (n + 29), .ref (n + 30), .ref (n + 31), .ref (n + 32), .null, .int 0, .null, .int 0, .null, .int 0, .null, .int 0])) := (f265 _ (by omega)).trans h262
  have m265 : M265.2 = (n + 34, w + 9529) := e265
  have d265 : M265.1 (n + 33) = some (.inl (0, 1024, .inl (fun _ => 0))) := c265
  refine R_putq (q := 446) rfl rfl rfl h265 (Nat.le_of_ble_eq_true rfl) rfl (fun _ => ⟨rfl, rfl⟩) rfl (fun M266 e266 c266 f266 => ?_)
  dsimp only [List.set] at c266
  have h266 : M266.1 a = some (.inr (12, [.ref n, .ref (n + 1), .ref (n + 2), .ref (n + 3), .int 0, .ref (n + 4), .ref (n + 5), .ref (n + 6), .ref (n + 7), .ref (n + 8), .ref (n + 9), .ref (n + 10), .ref (n + 11), .ref (n + 12), .ref (n + 13), .ref (n + 14), .ref (n + 15), .ref (n + 16), .ref (n + 17), .int 0, .int 0, .int 0, .int 0, .int 0, .ref (n + 18), .ref (n + 19), .ref (n + 20), .ref (n + 21), .int 0, .ref (n + 22), .ref (n + 23), .int 0, .ref (n + 24), .ref (n + 25), .ref (n + 26), .int 0, .int 0, .ref (n + 27), .ref (n + 28), .ref (n + 29), .ref (n + 30), .ref (n + 31), .ref (n + 32), .ref (n + 33), .int 0, .null, .int 0, .null, .int 0, .null, .int 0])) := c266
  have m266 : M266.2 = (n + 34, w + 9529) := e266.trans m265
  refine R_aload_n (q := 447) rfl rfl rfl ?_
  refine R_sipush (q := 450) (v := nI 1024) rfl rfl (by decide) ?_
  refine R_newiq (q := 452) rfl rfl (by decide) m266 (fun M269 e269 c269 f269 => ?_)
  have h269 : M269.1 a = some (.inr (12, [.ref n, .ref (n + 1), .ref (n + 2), .ref (n + 3), .int 0, .ref (n + 4), .ref (n + 5), .ref (n + 6), .ref (n + 7), .ref (n + 8), .ref (n + 9), .ref (n + 10), .ref (n + 11), .ref (n + 12), .ref (n + 13), .ref (n + 14), .ref (n + 15), .ref (n + 16), .ref (n + 17), .int 0, .int 0, .int 0, .int 0, .int 0, .ref (n + 18), .ref (n + 19), .ref (n + 20), .ref (n + 21), .int 0, .ref (n + 22), .ref (n + 23), .int 0, .ref (n + 24), .ref (n + 25), .ref (n + 26), .int 0, .int 0, .ref (n + 27), .ref (n + 28), .ref (n + 29), .ref (n + 30), .ref (n + 31), .ref (n + 32), .ref (n + 33), .int 0, .null, .int 0, .null, .int 0, .null, .int 0])) := (f269 _ (by omega)).trans h266
  have m269 : M269.2 = (n + 35, w + 10553) := e269
  have d269 : M269.1 (n + 34) = some (.inl (0, 1024, .inl (fun _ => 0))) := c269
  refine R_putq (q := 455) rfl rfl rfl h269 (Nat.le_of_ble_eq_true rfl) rfl (fun _ => ⟨rfl, rfl⟩) rfl (fun M270 e270 c270 f270 => ?_)
  dsimp only [List.set] at c270
  have h270 : M270.1 a = some (.inr (12, [.ref n, .ref (n + 1), .ref (n + 2), .ref (n + 3), .int 0, .ref (n + 4), .ref (n + 5), .ref (n + 6), .ref (n + 7), .ref (n + 8), .ref (n + 9), .ref (n + 10), .ref (n + 11), .ref (n + 12), .ref (n + 13), .ref (n + 14), .ref (n + 15), .ref (n + 16), .ref (n + 17), .int 0, .int 0, .int 0, .int 0, .int 0, .ref (n + 18), .ref (n + 19), .ref (n + 20), .ref (n + 21), .int 0, .ref (n + 22), .ref (n + 23), .int 0, .ref (n + 24), .ref (n + 25), .ref (n + 26), .int 0, .int 0, .ref (n + 27), .ref (n + 28), .ref (n + 29), .ref (n + 30), .ref (n + 31), .ref (n + 32), .ref (n + 33), .int 0, .ref (n + 34), .int 0, .null, .int 0, .null, .int 0])) := c270
  have m270 : M270.2 = (n + 35, w + 10553) := e270.trans m269
  refine R_aload_n (q := 456) rfl rfl rfl ?_
  refine R_sipush (q := 459) (v := nI 400) rfl rfl (by decide) ?_
  refine R_newiq (q := 461) rfl rfl (by decide) m270 (fun M273 e273 c273 f273 => ?_)
  have h273 : M273.1 a = some (.inr (12, [.ref n, .ref (n + 1), .ref (n + 2), .ref (n + 3), .int 0, .ref (n + 4), .ref (n + 5), .ref (n + 6), .ref (n + 7), .ref (n + 8), .ref (n + 9), .ref (n + 10), .ref (n + 11), .ref (n + 12), .ref (n + 13), .ref (n + 14), .ref (n + 15), .ref (n + 16), .ref (n + 17), .int 0, .int 0, .int 0, .int 0, .int 0, .ref (n + 18), .ref (n + 19), .ref (n + 20), .ref (n + 21), .int 0, .ref (n + 22), .ref (n + 23), .int 0, .ref (n + 24), .ref (n + 25), .ref (n + 26), .int 0, .int 0, .ref (n + 27), .ref (n + 28), .ref (n + 29), .ref (n + 30), .ref (n + 31), .ref (n + 32), .ref (n + 33), .int 0, .ref (n + 34), .int 0, .null, .int 0, .null, .int 0])) := (f273 _ (by omega)).trans h270
  have m273 : M273.2 = (n + 36, w + 10953) := e273
  have d273 : M273.1 (n + 35) = some (.inl (0, 400, .inl (fun _ => 0))) := c273
  refine R_putq (q := 464) rfl rfl rfl h273 (Nat.le_of_ble_eq_true rfl) rfl (fun _ => ⟨rfl, rfl⟩) rfl (fun M274 e274 c274 f274 => ?_)
  dsimp only [List.set] at c274
  have h274 : M274.1 a = some (.inr (12, [.ref n, .ref (n + 1), .ref (n + 2), .ref (n + 3), .int 0, .ref (n + 4), .ref (n + 5), .ref (n + 6), .ref (n + 7), .ref (n + 8), .ref (n + 9), .ref (n + 10), .ref (n + 11), .ref (n + 12), .ref (n + 13), .ref (n + 14), .ref (n + 15), .ref (n + 16), .ref (n + 17), .int 0, .int 0, .int 0, .int 0, .int 0, .ref (n + 18), .ref (n + 19), .ref (n + 20), .ref (n + 21), .int 0, .ref (n + 22), .ref (n + 23), .int 0, .ref (n + 24), .ref (n + 25), .ref (n + 26), .int 0, .int 0, .ref (n + 27), .ref (n + 28), .ref (n + 29), .ref (n + 30), .ref (n + 31), .ref (n + 32), .ref (n + 33), .int 0, .ref (n + 34), .int 0, .ref (n + 35), .int 0, .null, .int 0])) := c274
  have m274 : M274.2 = (n + 36, w + 10953) := e274.trans m273
  refine R_aload_n (q := 465) rfl rfl rfl ?_
  refine R_sipush (q := 468) (v := nI 1600) rfl rfl (by decide) ?_
  refine R_newiq (q := 470) rfl rfl (by decide) m274 (fun M277 e277 c277 f277 => ?_)
  have h277 : M277.1 a = some (.inr (12, [.ref n, .ref (n + 1), .ref (n + 2), .ref (n + 3), .int 0, .ref (n + 4), .ref (n + 5), .ref (n + 6), .ref (n + 7), .ref (n + 8), .ref (n + 9), .ref (n + 10), .ref (n + 11), .ref (n + 12), .ref (n + 13), .ref (n + 14), .ref (n + 15), .ref (n + 16), .ref (n + 17), .int 0, .int 0, .int 0, .int 0, .int 0, .ref (n + 18), .ref (n + 19), .ref (n + 20), .ref (n + 21), .int 0, .ref (n + 22), .ref (n + 23), .int 0, .ref (n + 24), .ref (n + 25), .ref (n + 26), .int 0, .int 0, .ref (n + 27), .ref (n + 28), .ref (n + 29), .ref (n + 30), .ref (n + 31), .ref (n + 32), .ref (n + 33), .int 0, .ref (n + 34), .int 0, .ref (n + 35), .int 0, .null, .int 0])) := (f277 _ (by omega)).trans h274
  have m277 : M277.2 = (n + 37, w + 12553) := e277
  have d277 : M277.1 (n + 36) = some (.inl (0, 1600, .inl (fun _ => 0))) := c277
  refine R_putq (q := 473) rfl rfl rfl h277 (Nat.le_of_ble_eq_true rfl) rfl (fun _ => ⟨rfl, rfl⟩) rfl (fun M278 e278 c278 f278 => ?_)
  dsimp only [List.set] at c278
  have h278 : M278.1 a = some (.inr (12, [.ref n, .ref (n + 1), .ref (n + 2), .ref (n + 3), .int 0, .ref (n + 4), .ref (n + 5), .ref (n + 6), .ref (n + 7), .ref (n + 8), .ref (n + 9), .ref (n + 10), .ref (n + 11), .ref (n + 12), .ref (n + 13), .ref (n + 14), .ref (n + 15), .ref (n + 16), .ref (n + 17), .int 0, .int 0, .int 0, .int 0, .int 0, .ref (n + 18), .ref (n + 19), .ref (n + 20), .ref (n + 21), .int 0, .ref (n + 22), .ref (n + 23), .int 0, .ref (n + 24), .ref (n + 25), .ref (n + 26), .int 0, .int 0, .ref (n + 27), .ref (n + 28), .ref (n + 29), .ref (n + 30), .ref (n + 31), .ref (n + 32), .ref (n + 33), .int 0, .ref (n + 34), .int 0, .ref (n + 35), .int 0, .ref (n + 36), .int 0])) := c278
  have m278 : M278.2 = (n + 37, w + 12553) := e278.trans m277
  have G106 : ∀ k, k ≠ a → k < n + 37 → M278.1 k = M278.1 k := fun _ _ _ => rfl
  have G105 : ∀ k, k ≠ a → k < n + 37 → M278.1 k = M277.1 k := fun k ha1 hk => (G106 k ha1 (by omega)).trans (f278 k (by omega))
  have G104 : ∀ k, k ≠ a → k < n + 36 → M278.1 k = M274.1 k := fun k ha1 hk => (G105 k ha1 (by omega)).trans (f277 k (by omega))
  have G103 : ∀ k, k ≠ a → k < n + 36 → M278.1 k = M273.1 k := fun k ha1 hk => (G104 k ha1 (by omega)).trans (f274 k (by omega))
  have G102 : ∀ k, k ≠ a → k < n + 35 → M278.1 k = M270.1 k := fun k ha1 hk => (G103 k ha1 (by omega)).trans (f273 k (by omega))
  have G101 : ∀ k, k ≠ a → k < n + 35 → M278.1 k = M269.1 k := fun k ha1 hk => (G102 k ha1 (by omega)).trans (f270 k (by omega))
  have G100 : ∀ k, k ≠ a → k < n + 34 → M278.1 k = M266.1 k := fun k ha1 hk => (G101 k ha1 (by omega)).trans (f269 k (by omega))
  have G99 : ∀ k, k ≠ a → k < n + 34 → M278.1 k = M265.1 k := fun k ha1 hk => (G100 k ha1 (by omega)).trans (f266 k (by omega))
  have G98 : ∀ k, k ≠ a → k < n + 33 → M278.1 k = M262.1 k := fun k ha1 hk => (G99 k ha1 (by omega)).trans (f265 k (by omega))
  have G97 : ∀ k, k ≠ a → k < n + 33 → M278.1 k = M261.1 k := fun k ha1 hk => (G98 k ha1 (by omega)).trans (f262 k (by omega))
  have G96 : ∀ k, k ≠ a → k < n + 32 → M278.1 k = M258.1 k := fun k ha1 hk => (G97 k ha1 (by omega)).trans (f261 k (by omega))
  have G95 : ∀ k, k ≠ a → k < n + 32 → M278.1 k = M257.1 k := fun k ha1 hk => (G96 k ha1 (by omega)).trans (f258 k (by omega))
  have G94 : ∀ k, k ≠ a → k < n + 31 → M278.1 k = M254.1 k := fun k ha1 hk => (G95 k ha1 (by omega)).trans (f257 k (by omega))
  have G93 : ∀ k, k ≠ a → k < n + 31 → M278.1 k = M253.1 k := fun k ha1 hk => (G94 k ha1 (by omega)).trans (f254 k (by omega))
  have G92 : ∀ k, k ≠ a → k < n + 30 → M278.1 k = M250.1 k := fun k ha1 hk => (G93 k ha1 (by omega)).trans (f253 k (by omega))
  have G91 : ∀ k, k ≠ a → k < n + 30 → M278.1 k = M249.1 k := fun k ha1 hk => (G92 k ha1 (by omega)).trans (f250 k (by omega))
  have G90 : ∀ k, k ≠ a → k < n + 29 → M278.1 k = M246.1 k := fun k ha1 hk => (G91 k ha1 (by omega)).trans (f249 k (by omega))
  have G89 : ∀ k, k ≠ a → k < n + 29 → M278.1 k = M245.1 k := fun k ha1 hk => (G90 k ha1 (by omega)).trans (f246 k (by omega))
  have G88 : ∀ k, k ≠ a → k < n + 28 → M278.1 k = M242.1 k := fun k ha1 hk => (G89 k ha1 (by omega)).trans (f245 k (by omega))
  have G87 : ∀ k, k ≠ a → k < n + 28 → M278.1 k = M241.1 k := fun k ha1 hk => (G88 k ha1 (by omega)).trans (f242 k (by omega))
  have G86 : ∀ k, k ≠ a → k < n + 27 → M278.1 k = M238.1 k := fun k ha1 hk => (G87 k ha1 (by omega)).trans (f241 k (by omega))
  have G85 : ∀ k, k ≠ a → k < n + 27 → M278.1 k = M237.1 k := fun k ha1 hk => (G86 k ha1 (by omega)).trans (f238 k (by omega))
  have G84 : ∀ k, k ≠ a → k < n + 26 → M278.1 k = M234.1 k := fun k ha1 hk => (G85 k ha1 (by omega)).trans (f237 k (by omega))
  have G83 : ∀ k, k ≠ a → k < n + 26 → M278.1 k = M233.1 k := fun k ha1 hk => (G84 k ha1 (by omega)).trans (f234 k (by omega))
  have G82 : ∀ k, k ≠ a → k < n + 25 → M278.1 k = M230.1 k := fun k ha1 hk => (G83 k ha1 (by omega)).trans (f233 k (by omega))
  have G81 : ∀ k, k ≠ a → k < n + 25 → M278.1 k = M229.1 k := fun k ha1 hk => (G82 k ha1 (by omega)).trans (f230 k (by omega))
  have G80 : ∀ k, k ≠ a → k < n + 24 → M278.1 k = M226.1 k := fun k ha1 hk => (G81 k ha1 (by omega)).trans (f229 k (by omega))
  have G79 : ∀ k, k ≠ a → k < n + 24 → M278.1 k = M225.1 k := fun k ha1 hk => (G80 k ha1 (by omega)).trans (f226 k (by omega))
  have G78 : ∀ k, k ≠ a → k < n + 23 → M278.1 k = M222.1 k := fun k ha1 hk => (G79 k ha1 (by omega)).trans (f225 k (by omega))
  have G77 : ∀ k, k ≠ a → k < n + 23 → M278.1 k = M221.1 k := fun k ha1 hk => (G78 k ha1 (by omega)).trans (f222 k (by omega))
  have G76 : ∀ k, k ≠ a → k < n + 22 → M278.1 k = M218.1 k := fun k ha1 hk => (G77 k ha1 (by omega)).trans (f221 k (by omega))
  have G75 : ∀ k, k ≠ a → k < n + 22 → M278.1 k = M217.1 k := fun k ha1 hk => (G76 k ha1 (by omega)).trans (f218 k (by omega))
  have G74 : ∀ k, k ≠ a → k < n + 21 → M278.1 k = M214.1 k := fun k ha1 hk => (G75 k ha1 (by omega)).trans (f217 k (by omega))
  have G73 : ∀ k, k ≠ a → k < n + 21 → M278.1 k = M213.1 k := fun k ha1 hk => (G74 k ha1 (by omega)).trans (f214 k (by omega))
  have G72 : ∀ k, k ≠ a → k < n + 20 → M278.1 k = M209.1 k := fun k ha1 hk => (G73 k ha1 (by omega)).trans (f213 k (by omega))
  have G71 : ∀ k, k ≠ a → k < n + 20 → M278.1 k = M205.1 k := fun k ha1 hk => (G72 k ha1 (by omega)).trans (f209 k (by omega))
  have G70 : ∀ k, k ≠ a → k < n + 20 → M278.1 k = M201.1 k := fun k ha1 hk => (G71 k ha1 (by omega)).trans (f205 k (by omega))
  have G69 : ∀ k, k ≠ a → k < n + 20 → M278.1 k = M197.1 k := fun k ha1 hk => (G70 k ha1 (by omega)).trans (f201 k (by omega))
  have G68 : ∀ k, k ≠ a → k < n + 20 → M278.1 k = M193.1 k := fun k ha1 hk => (G69 k ha1 (by omega)).trans (f197 k (by omega))
  have G67 : ∀ k, k ≠ a → k < n + 20 → M278.1 k = M189.1 k := fun k ha1 hk => (G68 k ha1 (by omega)).trans (f193 k (by omega))
  have G66 : ∀ k, k ≠ a → k < n + 20 → M278.1 k = M185.1 k := fun k ha1 hk => (G67 k ha1 (by omega)).trans (f189 k (by omega))
  have G65 : ∀ k, k ≠ a → k < n + 20 → M278.1 k = M181.1 k := fun k ha1 hk => (G66 k ha1 (by omega)).trans (f185 k (by omega))
  have G64 : ∀ k, k ≠ a → k < n + 20 → M278.1 k = M177.1 k := fun k ha1 hk => (G65 k ha1 (by omega)).trans (f181 k (by omega))
  have G63 : ∀ k, k ≠ a → k < n + 20 → M278.1 k = M173.1 k := fun k ha1 hk => (G64 k ha1 (by omega)).trans (f177 k (by omega))
  have G62 : ∀ k, k ≠ a → k < n + 20 → M278.1 k = M169.1 k := fun k ha1 hk => (G63 k ha1 (by omega)).trans (f173 k (by omega))
  have G61 : ∀ k, k ≠ a → k < n + 20 → M278.1 k = M165.1 k := fun k ha1 hk => (G62 k ha1 (by omega)).trans (f169 k (by omega))
  have G60 : ∀ k, k ≠ a → k < n + 20 → M278.1 k = M161.1 k := fun k ha1 hk => (G61 k ha1 (by omega)).trans (f165 k (by omega))
  have G59 : ∀ k, k ≠ a → k < n + 20 → M278.1 k = M157.1 k := fun k ha1 hk => (G60 k ha1 (by omega)).trans (f161 k (by omega))
  have G58 : ∀ k, k ≠ a → k < n + 20 → M278.1 k = M153.1 k := fun k ha1 hk => (G59 k ha1 (by omega)).trans (f157 k (by omega))
  have G57 : ∀ k, k ≠ a → k < n + 20 → M278.1 k = M149.1 k := fun k ha1 hk => (G58 k ha1 (by omega)).trans (f153 k (by omega))
  have G56 : ∀ k, k ≠ a → k < n + 20 → M278.1 k = M145.1 k := fun k ha1 hk => (G57 k ha1 (by omega)).trans (f149 k (by omega))
  have G55 : ∀ k, k ≠ a → k < n + 20 → M278.1 k = M141.1 k := fun k ha1 hk => (G56 k ha1 (by omega)).trans (f145 k (by omega))
  have G54 : ∀ k, k ≠ a → k < n + 20 → M278.1 k = M137.1 k := fun k ha1 hk => (G55 k ha1 (by omega)).trans (f141 k (by omega))
  have G53 : ∀ k, k ≠ a → k < n + 20 → M278.1 k = M133.1 k := fun k ha1 hk => (G54 k ha1 (by omega)).trans (f137 k (by omega))
  have G52 : ∀ k, k ≠ a → k < n + 20 → M278.1 k = M129.1 k := fun k ha1 hk => (G53 k ha1 (by omega)).trans (f133 k (by omega))
  have G51 : ∀ k, k ≠ a → k < n + 20 → M278.1 k = M125.1 k := fun k ha1 hk => (G52 k ha1 (by omega)).trans (f129 k (by omega))
  have G50 : ∀ k, k ≠ a → k < n + 20 → M278.1 k = M121.1 k := fun k ha1 hk => (G51 k ha1 (by omega)).trans (f125 k (by omega))
  have G49 : ∀ k, k ≠ a → k < n + 20 → M278.1 k = M117.1 k := fun k ha1 hk => (G50 k ha1 (by omega)).trans (f121 k (by omega))
  have G48 : ∀ k, k ≠ a → k < n + 20 → M278.1 k = M113.1 k := fun k ha1 hk => (G49 k ha1 (by omega)).trans (f117 k (by omega))
  have G47 : ∀ k, k ≠ a → k < n + 20 → M278.1 k = M109.1 k := fun k ha1 hk => (G48 k ha1 (by omega)).trans (f113 k (by omega))
  have G46 : ∀ k, k ≠ a → k < n + 20 → M278.1 k = M105.1 k := fun k ha1 hk => (G47 k ha1 (by omega)).trans (f109 k (by omega))
  have G45 : ∀ k, k ≠ a → k < n + 20 → M278.1 k = M101.1 k := fun k ha1 hk => (G46 k ha1 (by omega)).trans (f105 k (by omega))
  have G44 : ∀ k, k ≠ a → k < n + 20 → M278.1 k = M97.1 k := fun k ha1 hk => (G45 k ha1 (by omega)).trans (f101 k (by omega))
  have G43 : ∀ k, k ≠ a → k < n + 20 → M278.1 k = M93.1 k := fun k ha1 hk => (G44 k ha1 (by omega)).trans (f97 k (by omega))
  have G42 : ∀ k, k ≠ a → k < n + 20 → M278.1 k = M89.1 k := fun k ha1 hk => (G43 k ha1 (by omega)).trans (f93 k (by omega))
  have G41 : ∀ k, k ≠ a → k < n + 20 → M278.1 k = M85.1 k := fun k ha1 hk => (G42 k ha1 (by omega)).trans (f89 k (by omega))
  have G40 : ∀ k, k ≠ a → k < n + 20 → M278.1 k = M82.1 k := fun k ha1 hk => (G41 k ha1 (by omega)).trans (f85 k (by omega))
  have G39 : ∀ k, k ≠ a → k < n + 20 → M278.1 k = M81.1 k := fun k ha1 hk => (G40 k ha1 (by omega)).trans (f82 k (by omega))
  have G38 : ∀ k, k ≠ a → k < n + 19 → M278.1 k = M78.1 k := fun k ha1 hk => (G39 k ha1 (by omega)).trans (f81 k (by omega))
  have G37 : ∀ k, k ≠ a → k < n + 19 → M278.1 k = M77.1 k := fun k ha1 hk => (G38 k ha1 (by omega)).trans (f78 k (by omega))
  have G36 : ∀ k, k ≠ a → k < n + 18 → M278.1 k = M74.1 k := fun k ha1 hk => (G37 k ha1 (by omega)).trans (f77 k (by omega))
  have G35 : ∀ k, k ≠ a → k < n + 18 → M278.1 k = M73.1 k := fun k ha1 hk => (G36 k ha1 (by omega)).trans (f74 k (by omega))
  have G34 : ∀ k, k ≠ a → k < n + 17 → M278.1 k = M70.1 k := fun k ha1 hk => (G35 k ha1 (by omega)).trans (f73 k (by omega))
  have G33 : ∀ k, k ≠ a → k < n + 17 → M278.1 k = M69.1 k := fun k ha1 hk => (G34 k ha1 (by omega)).trans (f70 k (by omega))
  have G32 : ∀ k, k ≠ a → k < n + 16 → M278.1 k = M66.1 k := fun k ha1 hk => (G33 k ha1 (by omega)).trans (f69 k (by omega))
  have G31 : ∀ k, k ≠ a → k < n + 16 → M278.1 k = M65.1 k := fun k ha1 hk => (G32 k ha1 (by omega)).trans (f66 k (by omega))
  have G30 : ∀ k, k ≠ a → k < n + 15 → M278.1 k = M62.1 k := fun k ha1 hk => (G31 k ha1 (by omega)).trans (f65 k (by omega))
  have G29 : ∀ k, k ≠ a → k < n + 15 → M278.1 k = M61.1 k := fun k ha1 hk => (G30 k ha1 (by omega)).trans (f62 k (by omega))
  have G28 : ∀ k, k ≠ a → k < n + 14 → M278.1 k = M58.1 k := fun k ha1 hk => (G29 k ha1 (by omega)).trans (f61 k (by omega))
  have G27 : ∀ k, k ≠ a → k < n + 14 → M278.1 k = M57.1 k := fun k ha1 hk => (G28 k ha1 (by omega)).trans (f58 k (by omega))
  have G26 : ∀ k, k ≠ a → k < n + 13 → M278.1 k = M54.1 k := fun k ha1 hk => (G27 k ha1 (by omega)).trans (f57 k (by omega))
  have G25 : ∀ k, k ≠ a → k < n + 13 → M278.1 k = M53.1 k := fun k ha1 hk => (G26 k ha1 (by omega)).trans (f54 k (by omega))
  have G24 : ∀ k, k ≠ a → k < n + 12 → M278.1 k = M50.1 k := fun k ha1 hk => (G25 k ha1 (by omega)).trans (f53 k (by omega))
  have G23 : ∀ k, k ≠ a → k < n + 12 → M278.1 k = M49.1 k := fun k ha1 hk => (G24 k ha1 (by omega)).trans (f50 k (by omega))
  have G22 : ∀ k, k ≠ a → k < n + 11 → M278.1 k = M46.1 k := fun k ha1 hk => (G23 k ha1 (by omega)).trans (f49 k (by omega))
  have G21 : ∀ k, k ≠ a → k < n + 11 → M278.1 k = M45.1 k := fun k ha1 hk => (G22 k ha1 (by omega)).trans (f46 k (by omega))
  have G20 : ∀ k, k ≠ a → k < n + 10 → M278.1 k = M42.1 k := fun k ha1 hk => (G21 k ha1 (by omega)).trans (f45 k (by omega))
  have G19 : ∀ k, k ≠ a → k < n + 10 → M278.1 k = M41.1 k := fun k ha1 hk => (G20 k ha1 (by omega)).trans (f42 k (by omega))
  have G18 : ∀ k, k ≠ a → k < n + 9 → M278.1 k = M38.1 k := fun k ha1 hk => (G19 k ha1 (by omega)).trans (f41 k (by omega))
  have G17 : ∀ k, k ≠ a → k < n + 9 → M278.1 k = M37.1 k := fun k ha1 hk => (G18 k ha1 (by omega)).trans (f38 k (by omega))
  have G16 : ∀ k, k ≠ a → k < n + 8 → M278.1 k = M34.1 k := fun k ha1 hk => (G17 k ha1 (by omega)).trans (f37 k (by omega))
  have G15 : ∀ k, k ≠ a → k < n + 8 → M278.1 k = M33.1 k := fun k ha1 hk => (G16 k ha1 (by omega)).trans (f34 k (by omega))
  have G14 : ∀ k, k ≠ a → k < n + 7 → M278.1 k = M30.1 k := fun k ha1 hk => (G15 k ha1 (by omega)).trans (f33 k (by omega))
  have G13 : ∀ k, k ≠ a → k < n + 7 → M278.1 k = M29.1 k := fun k ha1 hk => (G14 k ha1 (by omega)).trans (f30 k (by omega))
  have G12 : ∀ k, k ≠ a → k < n + 6 → M278.1 k = M26.1 k := fun k ha1 hk => (G13 k ha1 (by omega)).trans (f29 k (by omega))
  have G11 : ∀ k, k ≠ a → k < n + 6 → M278.1 k = M25.1 k := fun k ha1 hk => (G12 k ha1 (by omega)).trans (f26 k (by omega))
  have G10 : ∀ k, k ≠ a → k < n + 5 → M278.1 k = M22.1 k := fun k ha1 hk => (G11 k ha1 (by omega)).trans (f25 k (by omega))
  have G9 : ∀ k, k ≠ a → k < n + 5 → M278.1 k = M21.1 k := fun k ha1 hk => (G10 k ha1 (by omega)).trans (f22 k (by omega))
  have G8 : ∀ k, k ≠ a → k < n + 4 → M278.1 k = M18.1 k := fun k ha1 hk => (G9 k ha1 (by omega)).trans (f21 k (by omega))
  have G7 : ∀ k, k ≠ a → k < n + 4 → M278.1 k = M17.1 k := fun k ha1 hk => (G8 k ha1 (by omega)).trans (f18 k (by omega))
  have G6 : ∀ k, k ≠ a → k < n + 3 → M278.1 k = M14.1 k := fun k ha1 hk => (G7 k ha1 (by omega)).trans (f17 k (by omega))
  have G5 : ∀ k, k ≠ a → k < n + 3 → M278.1 k = M13.1 k := fun k ha1 hk => (G6 k ha1 (by omega)).trans (f14 k (by omega))
  have G4 : ∀ k, k ≠ a → k < n + 2 → M278.1 k = M10.1 k := fun k ha1 hk => (G5 k ha1 (by omega)).trans (f13 k (by omega))
  have G3 : ∀ k, k ≠ a → k < n + 2 → M278.1 k = M9.1 k := fun k ha1 hk => (G4 k ha1 (by omega)).trans (f10 k (by omega))
  have G2 : ∀ k, k ≠ a → k < n + 1 → M278.1 k = M6.1 k := fun k ha1 hk => (G3 k ha1 (by omega)).trans (f9 k (by omega))
  have G1 : ∀ k, k ≠ a → k < n + 1 → M278.1 k = M5.1 k := fun k ha1 hk => (G2 k ha1 (by omega)).trans (f6 k (by omega))
  have G0 : ∀ k, k ≠ a → k < n + 0 → M278.1 k = M.1 k := fun k ha1 hk => (G1 k ha1 (by omega)).trans (f5 k (by omega))
  refine R_return rfl rfl ?_
  exact ⟨rfl, m278, fun k hk hka => G0 k hka (by omega), h278, (G1 _ (by omega) (by omega)).trans d5, (G3 _ (by omega) (by omega)).trans d9, (G5 _ (by omega) (by omega)).trans d13, (G7 _ (by omega) (by omega)).trans d17, (G9 _ (by omega) (by omega)).trans d21, (G11 _ (by omega) (by omega)).trans d25, (G13 _ (by omega) (by omega)).trans d29, (G15 _ (by omega) (by omega)).trans d33, (G17 _ (by omega) (by omega)).trans d37, (G19 _ (by omega) (by omega)).trans d41, (G21 _ (by omega) (by omega)).trans d45, (G23 _ (by omega) (by omega)).trans d49, (G25 _ (by omega) (by omega)).trans d53, (G27 _ (by omega) (by omega)).trans d57, (G29 _ (by omega) (by omega)).trans d61, (G31 _ (by omega) (by omega)).trans d65, (G33 _ (by omega) (by omega)).trans d69, (G35 _ (by omega) (by omega)).trans d73, (G37 _ (by omega) (by omega)).trans d77, (G39 _ (by omega) (by omega)).trans d81, (G73 _ (by omega) (by omega)).trans d213, (G75 _ (by omega) (by omega)).trans d217, (G77 _ (by omega) (by omega)).trans d221, (G79 _ (by omega) (by omega)).trans d225, (G81 _ (by omega) (by omega)).trans d229, (G83 _ (by omega) (by omega)).trans d233, (G85 _ (by omega) (by omega)).trans d237, (G87 _ (by omega) (by omega)).trans d241, (G89 _ (by omega) (by omega)).trans d245, (G91 _ (by omega) (by omega)).trans d249, (G93 _ (by omega) (by omega)).trans d253, (G95 _ (by omega) (by omega)).trans d257, (G97 _ (by omega) (by omega)).trans d261, (G99 _ (by omega) (by omega)).trans d265, (G101 _ (by omega) (by omega)).trans d269, (G103 _ (by omega) (by omega)).trans d273, (G105 _ (by omega) (by omega)).trans d277⟩
end P41b
