/-! ===== the reference's own calls, VIII: write ===== -/
def rng (x : Int32) : Prop := 0 ≤ x.toInt ∧ x.toInt ≤ 255
theorem rng_n {b : Nat} (h : b ≤ 255) : rng (nI b) := by unfold rng; rw [i_n _ (by omega)]; omega
theorem rng_and (x : Int32) : rng (x &&& nI 255) := by
  have h1 : (x &&& nI 255).toBitVec.toNat ≤ 255 := by
    rw [Int32.toBitVec_and, BitVec.toNat_and, show (nI 255).toBitVec.toNat = 255 from rfl]
    exact Nat.and_le_right
  have h2 : (x &&& nI 255).toInt = ((x &&& nI 255).toBitVec.toNat : Int) := BitVec.toInt_eq_toNat_of_lt (by omega)
  unfold rng
  omega
theorem n255 : ∀ b, b < 256 → nI b &&& nI 255 = nI b := by decide +kernel
def EG (s : ES) : Prop := ∀ i, i < s.1.1 → rng (s.1.2 i)
theorem EG_em {s : ES} {x : Int32} (h : EG s) (hx : rng x) : EG (em s x) := by
  unfold em
  by_cases ht : s.1.1 < 400
  · rw [if_pos ht]
    intro i hi
    have hi : i < s.1.1 + 1 := hi
    show rng (upd s.1.2 s.1.1 x i)
    by_cases hq : i = s.1.1
    · rw [hq, upd_e]; exact hx
    · rw [upd_n hq]; exact h i (by omega)
  · rw [if_neg ht]
    exact h
theorem EG_wln {s : ES} {X Y : Nat → Int32} {k len : Nat} (h : EG s) (hx : rng (X k)) (hy : rng (Y k)) (hl : len ≤ 255) : EG (wln X Y k len s) := by
  unfold wln
  split
  · exact EG_em (EG_em (EG_em (EG_em (EG_em h hx) hy) (rng_n hl)) (rng_and _)) (rng_and _)
  · exact EG_em (EG_em (EG_em h hx) hy) (rng_n hl)
theorem lef_all {X Y : Nat → Int32} {k : Nat} : ∀ j e, (∀ i, k < i → i < e → ssb X Y k i = true) → ∀ i, k < i → i < lef X Y k j e → ssb X Y k i = true := by
  intro j
  induction j with
  | zero => intro e h; exact h
  | succ j ih =>
    intro e h
    by_cases hs : ssb X Y k e = true
    · have e1 : lef X Y k (j + 1) e = lef X Y k j (e + 1) := if_pos hs
      rw [e1]
      refine ih (e + 1) (fun i h1 h2 => ?_)
      by_cases hq : i = e
      · rw [hq]; exact hs
      · exact h i h1 (by omega)
    · have e1 : lef X Y k (j + 1) e = e := if_neg hs
      rw [e1]
      exact h
theorem lend_16 {X Y : Nat → Int32} {x y : Nat → Nat} {m k : Nat} (hX : ∀ i, i < m → X i = nI (x i) ∧ Y i = nI (y i) ∧ x i < 16 ∧ y i < 16) (hlt : ∀ i, i + 1 < m → 16 * y i + x i < 16 * y (i + 1) + x (i + 1)) (hk : k < m) : lend X Y m k ≤ k + 16 := by
  by_cases hh : lend X Y m k ≤ k + 16
  · exact hh
  · exfalso
    have hl := lend_le (X := X) (Y := Y) hk
    have hall : ∀ i, k < i → i < lend X Y m k → ssb X Y k i = true := lef_all (m - (k + 1)) (k + 1) (fun i h1 h2 => by omega)
    have hst : ∀ i, k < i → i < lend X Y m k → (x i : Int) - x (i - 1) = (x (k + 1) : Int) - x k ∧ (y i : Int) - y (i - 1) = (y (k + 1) : Int) - y k := by
      intro i h1 h2
      have g := of_decide_eq_true (hall i h1 h2)
      have a1 := hX i (by omega)
      have a2 := hX (i - 1) (by omega)
      have a3 := hX (k + 1) (by omega)
      have a4 := hX k hk
      rw [a1.1, a2.1, a3.1, a4.1, a1.2.1, a2.2.1, a3.2.1, a4.2.1, i_eq, i_eq, pk_sub_toInt (by omega) (by omega), pk_sub_toInt (by omega) (by omega), pk_sub_toInt (by omega) (by omega), pk_sub_toInt (by omega) (by omega)] at g
      exact g
    have hap : ∀ i : Nat, k + i < lend X Y m k → (x (k + i) : Int) = x k + i * ((x (k + 1) : Int) - x k) ∧ (y (k + i) : Int) = y k + i * ((y (k + 1) : Int) - y k) := by
      intro i
      induction i with
      | zero => intro _; rw [Nat.add_zero]; constructor <;> simp
      | succ i ih =>
        intro h
        have h1 := ih (by omega)
        have h2 := hst (k + (i + 1)) (by omega) h
        rw [show k + (i + 1) - 1 = k + i by omega] at h2
        rw [show (((i + 1 : Nat) : Int)) = (i : Int) + 1 by omega, Int.add_mul, Int.add_mul, Int.one_mul, Int.one_mul]
        omega
    have h16 := hap 16 (by omega)
    have b1 := hX (k + 16) (by omega)
    have b2 := hX k hk
    have b3 := hlt k (by omega)
    omega
section P52a
variable {n : Nat} {p : Nat → Int32} {q : Nat → Nat → Nat}
theorem gat_mem (h : QV n p q) {g : Nat} (hg : g < 256) (gs : (Nat → Int32) × (Nat → Int32)) : (gat n p (nI (kk g)) n 0 (0, gs)).1 = cnr (mtc q (g / 16 + 1) (g % 16 + 1)) n 0 ∧ (∀ k, k < (gat n p (nI (kk g)) n 0 (0, gs)).1 → itx (mtc q (g / 16 + 1) (g % 16 + 1)) n 0 k < n ∧ (gat n p (nI (kk g)) n 0 (0, gs)).2.1 k = nI (q (itx (mtc q (g / 16 + 1) (g % 16 + 1)) n 0 k) 0) ∧ (gat n p (nI (kk g)) n 0 (0, gs)).2.2 k = nI (q (itx (mtc q (g / 16 + 1) (g % 16 + 1)) n 0 k) 1)) ∧ itx (mtc q (g / 16 + 1) (g % 16 + 1)) n 0 (gat n p (nI (kk g)) n 0 (0, gs)).1 = n := by
  have h1 := gat_it (n := n) (p := p) (K := nI (kk g)) (g := mtc q (g / 16 + 1) (g % 16 + 1)) (fun i hi => kd_mtc h hi hg) n 0 (0, gs) (by omega)
  obtain ⟨-, h2, h3⟩ := h1
  refine ⟨by rw [h2]; show 0 + _ = _; omega, fun k hk => ?_, ?_⟩
  · have h4 := (h3 k).1 (by show 0 + k < _; omega)
    rw [show (0 : Nat) + k = k by omega] at h4
    rw [h4.2.1, h4.2.2, h.2.1 _ 0 h4.1 (by decide), h.2.1 _ 1 h4.1 (by decide)]
    exact ⟨h4.1, rfl, rfl⟩
  · exact (h3 _).2 (by show 0 + _ = _; omega)
theorem itx_lt {g : Nat → Bool} {k : Nat} : itx g n 0 k < itx g n 0 (k + 1) := by
  have := (nxt_ge (g := g) (n - (itx g n 0 k + 1)) (itx g n 0 k + 1)).1
  show _ < nxt g (n - (itx g n 0 k + 1)) (itx g n 0 k + 1)
  omega
theorem kk_div {g : Nat} (hg : g < 256) : nI (kk g) / nI 17 = nI (g / 16 + 1) ∧ nI (kk g) - nI (kk g) / nI 17 * nI 17 = nI (g % 16 + 1) := by
  have e1 : nI (kk g) / nI 17 = nI (g / 16 + 1) := by
    rw [pk_div (by unfold kk; omega) (by omega) (by omega)]
    congr 1
    unfold kk
    omega
  refine ⟨e1, ?_⟩
  rw [e1, pk_mul, i_eq, pk_sub_toInt (by unfold kk; omega) (by omega), i_n _ (by omega)]
  unfold kk
  omega
theorem wgl_EG {X Y : Nat → Int32} {x y : Nat → Nat} {m : Nat} (hX : ∀ i, i < m → X i = nI (x i) ∧ Y i = nI (y i) ∧ x i < 16 ∧ y i < 16) (hlt : ∀ i, i + 1 < m → 16 * y i + x i < 16 * y (i + 1) + x (i + 1)) : ∀ (j k : Nat) (s : ES), m - k ≤ j → k ≤ m → EG s → EG (wgl X Y m (m - k) k (k, s)).2 := by
  intro j
  induction j with
  | zero =>
    intro k s h1 h2 h3
    rw [show m - k = 0 by omega]
    exact h3
  | succ j ih =>
    intro k s h1 h2 h3
    by_cases hk : k < m
    · rw [wgl_st hk]
      have hl := lend_le (X := X) (Y := Y) hk
      have hl2 := lend_16 hX hlt hk
      have a := hX k hk
      refine ih (lend X Y m k) _ (by omega) hl.2 (EG_wln h3 (by rw [a.1]; exact rng_n (by omega)) (by rw [a.2.1]; exact rng_n (by omega)) (by omega))
    · rw [show m - k = 0 by omega]
      exact h3
theorem wgr_EG (h : QV n p q) (hs : ∀ i j, i < j → j < n → 16 * q i 1 + q i 0 < 16 * q j 1 + q j 0) {g : Nat} (hg : g < 256) {u : ES × GS} (hu : EG u.1) : EG (wgr n p (nI (kk g)) u).1 := by
  unfold wgr
  have gm := gat_mem h hg u.2.2
  generalize gat n p (nI (kk g)) n 0 (0, u.2.2) = G at gm ⊢
  obtain ⟨g1, g2, g3⟩ := gm
  have hle : G.1 ≤ 256 := by rw [g1]; have := cnr_le (g := mtc q (g / 16 + 1) (g % 16 + 1)) n 0; have := h.1; omega
  have hc := cln_le (X := G.2.1) (Y := G.2.2) (m := G.1) G.1 0 0 (by omega) (by omega)
  rw [show G.1 - 0 = G.1 by omega] at hc
  have h0 := wgl_EG (X := G.2.1) (Y := G.2.2) (x := fun k => q (itx (mtc q (g / 16 + 1) (g % 16 + 1)) n 0 k) 0) (y := fun k => q (itx (mtc q (g / 16 + 1) (g % 16 + 1)) n 0 k) 1) (m := G.1) (fun i hi => ⟨(g2 i hi).2.1, (g2 i hi).2.2, (h.2.2 _ (g2 i hi).1).1⟩) (fun i hi => hs _ _ itx_lt (g2 (i + 1) hi).1) G.1 0 (wghd (nI (kk g)) (cln G.2.1 G.2.2 G.1 G.1 0 (0, 0)).2 u.1) (by omega) (by omega) (by
    unfold wghd
    rw [(kk_div hg).2, (kk_div hg).1]
    exact EG_em (EG_em (EG_em hu (rng_n (by omega))) (rng_n (by omega))) (rng_n (by omega)))
  rw [show G.1 - 0 = G.1 by omega] at h0
  exact h0
theorem drl_EG (h : QV n p q) (hs : ∀ i j, i < j → j < n → 16 * q i 1 + q i 0 < 16 * q j 1 + q j 0) : ∀ (j : Nat) (u : Int32 × ES × GS), (u.1 = nI 0 ∨ ∃ g, g < 256 ∧ u.1 = nI (kk g)) → EG u.2.1 → EG (drl n p j u).2.1 := by
  intro j
  induction j with
  | zero => intro u _ hu; exact hu
  | succ j ih =>
    intro u hk hu
    unfold drl
    by_cases h0 : 0 < u.1
    · rw [if_pos h0]
      rcases hk with hk | ⟨g, hg, hk⟩
      · rw [hk] at h0; exact absurd h0 (by decide)
      · refine ih _ ?_ (by rw [hk]; exact wgr_EG h hs hg hu)
        show kaf n p u.1 = nI 0 ∨ _
        rw [hk]
        rcases NXK_s h hg with ⟨z, -⟩ | ⟨b, hb1, -, hb2, -⟩
        · exact Or.inl z
        · exact Or.inr ⟨_, (kdn_key h hb1).2, hb2⟩
    · rw [if_neg h0]
      exact hu
theorem PV_QV {s : IS} (h : PV s) : QV s.1 s.2 (pv s) := h.1
theorem WRT_EG {s : IS} (h : PV s) : ∀ X, WRT s X → ∀ i, i < X.1.1 → 0 ≤ (X.1.2 i).toInt ∧ (X.1.2 i).toInt ≤ 255 := by
  intro X hX
  obtain ⟨ob, g, rfl⟩ := hX
  have h1 : EG (drf s.1 s.2 ob g).1 := by
    unfold drf
    refine EG_em (drl_EG (PV_QV h) h.2 256 _ ?_ (fun i hi => absurd hi (Nat.not_lt_zero _))) (rng_n (by decide))
    show kaf s.1 s.2 (nI 0) = nI 0 ∨ _
    rcases NXK_0 (PV_QV h) with ⟨z, -⟩ | ⟨b, hb1, -, hb2, -⟩
    · exact Or.inl z
    · exact Or.inr ⟨_, (kdn_key (PV_QV h) hb1).2, hb2⟩
  exact h1
end P52a
section P52
variable {S : mm_S} {d : Nat} {M : mm_M} {A : AS} {I : Nat → Int32} {sh : Nat → Nat → Int32} {o : OS} {l : LYS} {pi fa tp : IS}
set_option maxRecDepth 8000 in
theorem m190 {x : Int32} {t : Nat} {F : Nat → Int32} (ht : t < 1600) : mm_R S (d + 0) 190 0 (mm_en 190 [.ref 73, .int x]) [] (mdm M (upa A 110 F) (upd I 50 (nI t))) (fun v M' => v = none ∧ M' = (mdm M (upa A 110 (upd F t (x &&& nI 255))) (upd I 50 (nI (t + 1))))) := by
  show mm_R S (d + 0) 190 0 [some (.ref 73), some (.int x)] [] (mdm M (upa A 110 F) (upd I 50 (nI t))) _
  refine R_aload_n (q := 1) rfl rfl rfl ?_
  refine R_getf (q := 4) rfl rfl rfl md_73 rfl ?_
  refine R_aload_n (q := 5) rfl rfl rfl ?_
  refine R_getf (q := 8) rfl rfl rfl md_73 rfl ?_
  rw [upd_e]
  refine R_iload_n (q := 9) rfl rfl rfl ?_
  refine R_sipush (q := 12) (v := nI 255) rfl rfl (by decide) ?_
  refine R_iand (q := 13) rfl rfl ?_
  refine R_iastore (q := 14) rfl rfl md_110 (by first | assumption | exact in_nI (by omega) (by decide)) ?_
  rw [cl_nI (by omega)]
  rw [md_p110]
  rw [upa_u, upa_e]
  refine R_aload_n (q := 15) rfl rfl rfl ?_
  first | refine R_dupa (q := 16) rfl rfl ?_ | refine R_dupi (q := 16) rfl rfl ?_
  refine R_getf (q := 19) rfl rfl rfl md_73 rfl ?_
  rw [upd_e]
  refine R_iconst (q := 20) (v := nI 1) rfl rfl (by decide) ?_
  refine R_iadd (q := 21) rfl rfl ?_
  rw [nI_add]
  refine R_putf (q := 24) rfl rfl rfl md_73 (Nat.le_of_ble_eq_true rfl) rfl (fun hf => absurd hf (by decide)) rfl ?_
  dsimp only [List.set]
  rw [md_f50]
  rw [upd_uu]
  refine R_return rfl rfl ?_
  exact ⟨rfl, rfl⟩
set_option maxRecDepth 8000 in
theorem m191 {n i w h t : Nat} {q : Nat → Nat → Nat} {F : Nat → Int32} (hn : n ≤ 256) (hI : I 44 = nI n) (hA : ∀ i f, i < n → f < 4 → A 107 (4 * i + f) = nI (q i f)) (hq : ∀ i f, i < n → f < 4 → q i f < 100) (hw : w < 100) (hh : h < 100) (hi : i ≤ n) : mm_R S (d + 0) 191 0 (mm_en 191 [.ref 73, .int (nI i), .int (nI w), .int (nI h)]) [] (mdm M (upa A 110 F) (upd I 50 (nI t))) (fun v M' => v = some (.int (nI (nxt (mtc q w h) (n - i) i))) ∧ M' = (mdm M (upa A 110 F) (upd I 50 (nI t)))) := by
  show mm_R S (d + 0) 191 0 [some (.ref 73), some (.int (nI i)), some (.int (nI w)), some (.int (nI h)), none] [] (mdm M (upa A 110 F) (upd I 50 (nI t))) _
  have hI' : ∀ T, upd I 50 T 44 = nI n := fun T => (upd_n (by decide)).trans hI
  have hA' : ∀ i f, i < n → f < 4 → upa A 110 F 107 (4 * i + f) = nI (q i f) := hA
  have hl : ∀ (j i : Nat) (t1 : Option Value), i + j = n → mm_R S d 191 3 [some (.ref 73), t1, some (.int (nI w)), some (.int (nI h)), some (.int (nI i))] [] (mdm M (upa A 110 F) (upd I 50 (nI t))) (fun v M' => v = some (.int (nI (nxt (mtc q w h) j i))) ∧ M' = (mdm M (upa A 110 F) (upd I 50 (nI t)))) := by
    intro j
    induction j with
    | zero =>
      intro i t1 hi
      refine R_iload (q := 5) rfl rfl rfl ?_
      refine R_aload_n (q := 6) rfl rfl rfl ?_
      refine R_getf (q := 9) rfl rfl rfl md_73 rfl ?_
      rw [hI']
      refine R_icmp_ge (q := 12) (t := 48) rfl rfl rfl (fun h9 => ?_) (fun h9 => absurd (nI_le (by omega) (by omega)) h9)
      refine R_iload (q := 50) rfl rfl rfl ?_
      refine R_ireturn rfl rfl ?_
      exact ⟨rfl, rfl⟩
    | succ j ih =>
      intro i t1 hi
      have q2 := hq i 2 (by omega) (by decide)
      have q3 := hq i 3 (by omega) (by decide)
      have e1 : nxt (mtc q w h) (j + 1) i = if q i 2 = w ∧ q i 3 = h then i else nxt (mtc q w h) j (i + 1) := by
        show (if mtc q w h i = true then _ else _) = _
        unfold mtc
        by_cases z : q i 2 = w ∧ q i 3 = h
        · rw [if_pos z, if_pos (decide_eq_true z)]
        · rw [if_neg z, if_neg (fun y => z (of_decide_eq_true y))]
      refine R_iload (q := 5) rfl rfl rfl ?_
      refine R_aload_n (q := 6) rfl rfl rfl ?_
      refine R_getf (q := 9) rfl rfl rfl md_73 rfl ?_
      rw [hI']
      refine R_icmp_ge (q := 12) (t := 48) rfl rfl rfl (fun h9 => absurd h9 (nI_ge (by omega) (by omega))) (fun h9 => ?_)
      refine R_aload_n (q := 13) rfl rfl rfl ?_
      refine R_getf (q := 16) rfl rfl rfl md_73 rfl ?_
      refine R_iconst (q := 17) (v := nI 4) rfl rfl (by decide) ?_
      refine R_iload (q := 19) rfl rfl rfl ?_
      refine R_imul (q := 20) rfl rfl ?_
      rw [pk_mul]
      refine R_iconst (q := 21) (v := nI 2) rfl rfl (by decide) ?_
      refine R_iadd (q := 22) rfl rfl ?_
      rw [nI_add]
      refine R_iaload (q := 23) rfl rfl md_107 (by decide) (by first | assumption | exact in_nI (by omega) (by decide)) ?_
      rw [cl_nI (by omega)]
      rw [hA' i 2 (by omega) (by decide)]
      refine R_iload_n (q := 24) rfl rfl rfl ?_
      refine R_icmp_ne (q := 27) (t := 42) rfl rfl rfl (fun h24 => ?_) (fun h24 => ?_)
      · refine R_iinc (q := 45) rfl rfl rfl (nI_i1 i) rfl ?_
        dsimp only [List.set]
        refine R_goto (t := 3) rfl rfl ?_
        rw [e1, if_neg (fun z => by
          first
            | exact h24 (congrArg nI z.1)
            | exact h39 (congrArg nI z.2))]
        exact ih (i + 1) _ (by omega)
      · refine R_aload_n (q := 28) rfl rfl rfl ?_
        refine R_getf (q := 31) rfl rfl rfl md_73 rfl ?_
        refine R_iconst (q := 32) (v := nI 4) rfl rfl (by decide) ?_
        refine R_iload (q := 34) rfl rfl rfl ?_
        refine R_imul (q := 35) rfl rfl ?_
        rw [pk_mul]
        refine R_iconst (q := 36) (v := nI 3) rfl rfl (by decide) ?_
        refine R_iadd (q := 37) rfl rfl ?_
        rw [nI_add]
        refine R_iaload (q := 38) rfl rfl md_107 (by decide) (by first | assumption | exact in_nI (by omega) (by decide)) ?_
        rw [cl_nI (by omega)]
        rw [hA' i 3 (by omega) (by decide)]
        refine R_iload_n (q := 39) rfl rfl rfl ?_
        refine R_icmp_eq (q := 42) (t := 48) rfl rfl rfl (fun h39 => ?_) (fun h39 => ?_)
        · refine R_iload (q := 50) rfl rfl rfl ?_
          refine R_ireturn rfl rfl ?_
          rw [e1, if_pos ⟨nI_inj (by omega) (by omega) h24, nI_inj (by omega) (by omega) h39⟩]
          exact ⟨rfl, rfl⟩
        · refine R_iinc (q := 45) rfl rfl rfl (nI_i1 i) rfl ?_
          dsimp only [List.set]
          refine R_goto (t := 3) rfl rfl ?_
          rw [e1, if_neg (fun z => by
            first
              | exact h24 (congrArg nI z.1)
              | exact h39 (congrArg nI z.2))]
          exact ih (i + 1) _ (by omega)
  refine R_iload_n (q := 1) rfl rfl rfl ?_
  refine R_istore (q := 3) rfl rfl (Nat.le_of_ble_eq_true rfl) rfl ?_
  dsimp only [List.set]
  exact hl (n - i) i _ (by omega)
set_option maxRecDepth 8000 in
theorem m192 {n m k w h t : Nat} {q : Nat → Nat → Nat} {mi : Nat → Nat} {F X Y : Nat → Int32} (hn : n ≤ 256) (hI : I 44 = nI n) (hA : ∀ i f, i < n → f < 4 → A 107 (4 * i + f) = nI (q i f)) (hq : ∀ i f, i < n → f < 4 → q i f < 100) (hw : w < 100) (hh : h < 100) (hm : ∀ k, k < m → mi k < n ∧ X k = nI (q (mi k) 0) ∧ Y k = nI (q (mi k) 1)) (hmm : mi m = n) (hnx : ∀ k, k < m → nxt (mtc q w h) (n - (mi k + 1)) (mi k + 1) = mi (k + 1)) (hk : k < m) (ht : t + 5 ≤ 1600) (hx : ∀ i, i < n → q i 0 < 16 ∧ q i 1 < 16) : mm_R S (d + 1) 192 0 (mm_en 192 [.ref 73, .int (nI (mi k)), .int (nI w), .int (nI h)]) [] (mdm M (upa A 110 F) (upd I 50 (nI t))) (fun v M' => v = some (.int (nI (mi (lend X Y m k)))) ∧ M' = (mdm M (upa A 110 (lnF X Y k (lend X Y m k - k) F t)) (upd I 50 (nI (lnT (lend X Y m k - k) t))))) := by
  show mm_R S (d + 1) 192 0 [some (.ref 73), some (.int (nI (mi k))), some (.int (nI w)), some (.int (nI h)), none, none, none, none, none, none] [] (mdm M (upa A 110 F) (upd I 50 (nI t))) _
  have hI' : ∀ T, upd I 50 T 44 = nI n := fun T => (upd_n (by decide)).trans hI
  have hA' : ∀ F i f, i < n → f < 4 → upa A 110 F 107 (4 * i + f) = nI (q i f) := fun _ => hA
  have hA0 : ∀ F i, i < n → upa A 110 F 107 (4 * i) = nI (q i 0) := fun F i hi => hA i 0 hi (by decide)
  have mk := hm k hk
  have mk1 := mk.1
  have xk := hx (mi k) mk1
  have hl := lend_le (X := X) (Y := Y) hk
  have hlp : ∀ (j e : Nat), k + 1 ≤ e → e + j = m → mm_R S (d + 1) 192 193 [some (.ref 73), some (.int (nI (mi k))), some (.int (nI w)), some (.int (nI h)), some (.int (nI (mi (lef X Y k j e)))), some (.int (nI (t + 2))), some (.int (X (k + 1) - X k)), some (.int (Y (k + 1) - Y k)), some (.int (nI (mi (lef X Y k j e - 1)))), some (.int (nI (lef X Y k j e - k)))] [] (mdm M (upa A 110 (upd (upd (upd F t (X k)) (t + 1) (Y k)) (t + 2) (nI 1))) (upd I 50 (nI (t + 3)))) (fun v M' => v = some (.int (nI (mi (lend X Y m k)))) ∧ M' = (mdm M (upa A 110 (lnF X Y k (lend X Y m k - k) F t)) (upd I 50 (nI (lnT (lend X Y m k - k) t))))) → mm_R S (d + 1) 192 110 [some (.ref 73), some (.int (nI (mi k))), some (.int (nI w)), some (.int (nI h)), some (.int (nI (mi e))), some (.int (nI (t + 2))), some (.int (X (k + 1) - X k)), some (.int (Y (k + 1) - Y k)), some (.int (nI (mi (e - 1)))), some (.int (nI (e - k)))] [] (mdm M (upa A 110 (upd (upd (upd F t (X k)) (t + 1) (Y k)) (t + 2) (nI 1))) (upd I 50 (nI (t + 3)))) (fun v M' => v = some (.int (nI (mi (lend X Y m k)))) ∧ M' = (mdm M (upa A 110 (lnF X Y k (lend X Y m k - k) F t)) (upd I 50 (nI (lnT (lend X Y m k - k) t))))) := by
    intro j
    induction j with
    | zero =>
      intro e he hej hK
      have hem : mi e = n := by rw [show e = m by omega]; exact hmm
      refine R_iload (q := 112) rfl rfl rfl ?_
      refine R_aload_n (q := 113) rfl rfl rfl ?_
      refine R_getf (q := 116) rfl rfl rfl md_73 rfl ?_
      rw [hI']
      refine R_icmp_ge (q := 119) (t := 193) rfl rfl rfl (fun h116 => ?_) (fun h116 => absurd (nI_le (by omega) (by omega)) h116)
      exact hK
    | succ j ih =>
      intro e he hej hK
      have me := hm e (by omega)
      have me1 := me.1
      have mp := hm (e - 1) (by omega)
      have mp1 := mp.1
      have e1 : lef X Y k (j + 1) e = if ssb X Y k e = true then lef X Y k j (e + 1) else e := rfl
      have e2 : ssb X Y k e = true ↔ (X e - X (e - 1) = X (k + 1) - X k ∧ Y e - Y (e - 1) = Y (k + 1) - Y k) := decide_eq_true_iff
      refine R_iload (q := 112) rfl rfl rfl ?_
      refine R_aload_n (q := 113) rfl rfl rfl ?_
      refine R_getf (q := 116) rfl rfl rfl md_73 rfl ?_
      rw [hI']
      refine R_icmp_ge (q := 119) (t := 193) rfl rfl rfl (fun h116 => absurd h116 (nI_ge (by omega) (by omega))) (fun h116 => ?_)
      refine R_aload_n (q := 120) rfl rfl rfl ?_
      refine R_getf (q := 123) rfl rfl rfl md_73 rfl ?_
      refine R_iconst (q := 124) (v := nI 4) rfl rfl (by decide) ?_
      refine R_iload (q := 126) rfl rfl rfl ?_
      refine R_imul (q := 127) rfl rfl ?_
      rw [pk_mul]
      refine R_iaload (q := 128) rfl rfl md_107 (by decide) (by first | assumption | exact in_nI (by omega) (by decide)) ?_
      rw [cl_nI (by omega)]
      rw [hA0 _ (mi e) (by omega), ← me.2.1]
      refine R_aload_n (q := 129) rfl rfl rfl ?_
      refine R_getf (q := 132) rfl rfl rfl md_73 rfl ?_
      refine R_iconst (q := 133) (v := nI 4) rfl rfl (by decide) ?_
      refine R_iload (q := 135) rfl rfl rfl ?_
      refine R_imul (q := 136) rfl rfl ?_
      rw [pk_mul]
      refine R_iaload (q := 137) rfl rfl md_107 (by decide) (by first | assumption | exact in_nI (by omega) (by decide)) ?_
      rw [cl_nI (by omega)]
      rw [hA0 _ (mi (e - 1)) (by omega), ← mp.2.1]
      refine R_isub (q := 138) rfl rfl ?_
      refine R_iload (q := 140) rfl rfl rfl ?_
      refine R_icmp_ne (q := 143) (t := 193) rfl rfl rfl (fun h140 => ?_) (fun h140 => ?_)
      · rw [e1, if_neg (fun z => by
          have z := e2.mp z
          first
            | exact h140 z.1
            | exact h168 z.2)] at hK
        exact hK
      · refine R_aload_n (q := 144) rfl rfl rfl ?_
        refine R_getf (q := 147) rfl rfl rfl md_73 rfl ?_
        refine R_iconst (q := 148) (v := nI 4) rfl rfl (by decide) ?_
        refine R_iload (q := 150) rfl rfl rfl ?_
        refine R_imul (q := 151) rfl rfl ?_
        rw [pk_mul]
        refine R_iconst (q := 152) (v := nI 1) rfl rfl (by decide) ?_
        refine R_iadd (q := 153) rfl rfl ?_
        rw [nI_add]
        refine R_iaload (q := 154) rfl rfl md_107 (by decide) (by first | assumption | exact in_nI (by omega) (by decide)) ?_
        rw [cl_nI (by omega)]
        rw [hA' _ (mi e) 1 (by omega) (by decide), ← me.2.2]
        refine R_aload_n (q := 155) rfl rfl rfl ?_
        refine R_getf (q := 158) rfl rfl rfl md_73 rfl ?_
        refine R_iconst (q := 159) (v := nI 4) rfl rfl (by decide) ?_
        refine R_iload (q := 161) rfl rfl rfl ?_
        refine R_imul (q := 162) rfl rfl ?_
        rw [pk_mul]
        refine R_iconst (q := 163) (v := nI 1) rfl rfl (by decide) ?_
        refine R_iadd (q := 164) rfl rfl ?_
        rw [nI_add]
        refine R_iaload (q := 165) rfl rfl md_107 (by decide) (by first | assumption | exact in_nI (by omega) (by decide)) ?_
        rw [cl_nI (by omega)]
        rw [hA' _ (mi (e - 1)) 1 (by omega) (by decide), ← mp.2.2]
        refine R_isub (q := 166) rfl rfl ?_
        refine R_iload (q := 168) rfl rfl rfl ?_
        refine R_icmp_ne (q := 171) (t := 193) rfl rfl rfl (fun h168 => ?_) (fun h168 => ?_)
        · rw [e1, if_neg (fun z => by
            have z := e2.mp z
            first
              | exact h140 z.1
              | exact h168 z.2)] at hK
          exact hK
        · refine R_iinc (q := 174) rfl rfl rfl (nI_i1 (e - k)) rfl ?_
          dsimp only [List.set]
          refine R_iload (q := 176) rfl rfl rfl ?_
          refine R_istore (q := 178) rfl rfl (Nat.le_of_ble_eq_true rfl) rfl ?_
          dsimp only [List.set]
          refine R_aload_n (q := 179) rfl rfl rfl ?_
          refine R_iload (q := 181) rfl rfl rfl ?_
          refine R_iconst (q := 182) (v := nI 1) rfl rfl (by decide) ?_
          refine R_iadd (q := 183) rfl rfl ?_
          rw [nI_add]
          refine R_iload_n (q := 184) rfl rfl rfl ?_
          refine R_iload_n (q := 185) rfl rfl rfl ?_
          refine R_callv3 (q := 188) rfl rfl rfl rfl md_73 (Nat.le_of_ble_eq_true rfl) rfl ?_
          refine R_mono (m191 (i := mi e + 1) hn hI hA hq hw hh (by omega)) (fun v185 M185 hr185 => ?_)
          obtain ⟨rfl, hm185⟩ := hr185
          rw [hm185]
          dsimp only [Option.toList, List.cons_append, List.nil_append]
          rw [hnx e (by omega)]
          refine R_istore (q := 190) rfl rfl (Nat.le_of_ble_eq_true rfl) rfl ?_
          dsimp only [List.set]
          refine R_goto (t := 110) rfl rfl ?_
          rw [e1, if_pos (e2.mpr ⟨h140, h168⟩)] at hK
          rw [show e - k + 1 = e + 1 - k by omega]
          exact ih (e + 1) (by omega) (by omega) hK
  refine R_aload_n (q := 1) rfl rfl rfl ?_
  refine R_iload_n (q := 2) rfl rfl rfl ?_
  refine R_iconst (q := 3) (v := nI 1) rfl rfl (by decide) ?_
  refine R_iadd (q := 4) rfl rfl ?_
  rw [nI_add]
  refine R_iload_n (q := 5) rfl rfl rfl ?_
  refine R_iload_n (q := 6) rfl rfl rfl ?_
  refine R_callv3 (q := 9) rfl rfl rfl rfl md_73 (Nat.le_of_ble_eq_true rfl) rfl ?_
  refine R_mono (m191 (i := mi k + 1) hn hI hA hq hw hh (by omega)) (fun v6 M6 hr6 => ?_)
  obtain ⟨rfl, hm6⟩ := hr6
  rw [hm6]
  dsimp only [Option.toList, List.cons_append, List.nil_append]
  rw [hnx k hk]
  refine R_istore (q := 11) rfl rfl (Nat.le_of_ble_eq_true rfl) rfl ?_
  dsimp only [List.set]
  refine R_aload_n (q := 12) rfl rfl rfl ?_
  refine R_aload_n (q := 13) rfl rfl rfl ?_
  refine R_getf (q := 16) rfl rfl rfl md_73 rfl ?_
  
  refine R_iconst (q := 17) (v := nI 4) rfl rfl (by decide) ?_
  refine R_iload_n (q := 18) rfl rfl rfl ?_
  refine R_imul (q := 19) rfl rfl ?_
  rw [pk_mul]
  refine R_iaload (q := 20) rfl rfl md_107 (by decide) (by first | assumption | exact in_nI (by omega) (by decide)) ?_
  rw [cl_nI (by omega)]
  rw [hA0 _ (mi k) (by omega), ← mk.2.1]
  refine R_callv1 (q := 23) rfl rfl rfl rfl md_73 (Nat.le_of_ble_eq_true rfl) rfl ?_
  refine R_mono (m190 (by omega)) (fun v20 M20 hr20 => ?_)
  obtain ⟨rfl, hm20⟩ := hr20
  rw [hm20]
  dsimp only [Option.toList, List.cons_append, List.nil_append]
  rw [show X k &&& nI 255 = X k by rw [mk.2.1]; exact n255 _ (by omega)]
  refine R_aload_n (q := 24) rfl rfl rfl ?_
  refine R_aload_n (q := 25) rfl rfl rfl ?_
  refine R_getf (q := 28) rfl rfl rfl md_73 rfl ?_
  refine R_iconst (q := 29) (v := nI 4) rfl rfl (by decide) ?_
  refine R_iload_n (q := 30) rfl rfl rfl ?_
  refine R_imul (q := 31) rfl rfl ?_
  rw [pk_mul]
  refine R_iconst (q := 32) (v := nI 1) rfl rfl (by decide) ?_
  refine R_iadd (q := 33) rfl rfl ?_
  rw [nI_add]
  refine R_iaload (q := 34) rfl rfl md_107 (by decide) (by first | assumption | exact in_nI (by omega) (by decide)) ?_
  rw [cl_nI (by omega)]
  rw [hA' _ (mi k) 1 (by omega) (by decide), ← mk.2.2]
  refine R_callv1 (q := 37) rfl rfl rfl rfl md_73 (Nat.le_of_ble_eq_true rfl) rfl ?_
  refine R_mono (m190 (by omega)) (fun v34 M34 hr34 => ?_)
  obtain ⟨rfl, hm34⟩ := hr34
  rw [hm34]
  dsimp only [Option.toList, List.cons_append, List.nil_append]
  rw [show Y k &&& nI 255 = Y k by rw [mk.2.2]; exact n255 _ (by omega)]
  refine R_aload_n (q := 38) rfl rfl rfl ?_
  refine R_getf (q := 41) rfl rfl rfl md_73 rfl ?_
  rw [upd_e]
  refine R_istore (q := 43) rfl rfl (Nat.le_of_ble_eq_true rfl) rfl ?_
  dsimp only [List.set]
  refine R_aload_n (q := 44) rfl rfl rfl ?_
  refine R_iconst (q := 45) (v := nI 1) rfl rfl (by decide) ?_
  refine R_callv1 (q := 48) rfl rfl rfl rfl md_73 (Nat.le_of_ble_eq_true rfl) rfl ?_
  refine R_mono (m190 (by omega)) (fun v45 M45 hr45 => ?_)
  obtain ⟨rfl, hm45⟩ := hr45
  rw [hm45]
  dsimp only [Option.toList, List.cons_append, List.nil_append]
  rw [show nI 1 &&& nI 255 = nI 1 from rfl, show t + 1 + 1 = t + 2 from rfl, show t + 2 + 1 = t + 3 from rfl]
  refine R_iload (q := 50) rfl rfl rfl ?_
  refine R_aload_n (q := 51) rfl rfl rfl ?_
  refine R_getf (q := 54) rfl rfl rfl md_73 rfl ?_
  rw [hI']
  refine R_icmp_ne (q := 57) (t := 60) rfl rfl rfl (fun h54 => ?_) (fun h54 => ?_)
  · have hk1 : k + 1 < m := by
      by_cases z : k + 1 < m
      · exact z
      · exfalso
        apply h54
        rw [show k + 1 = m by omega, hmm]
    have mk3 := hm (k + 1) hk1
    have mk31 := mk3.1
    have hl2 := lend_2 (X := X) (Y := Y) hk1
    refine R_aload_n (q := 61) rfl rfl rfl ?_
    refine R_getf (q := 64) rfl rfl rfl md_73 rfl ?_
    refine R_iconst (q := 65) (v := nI 4) rfl rfl (by decide) ?_
    refine R_iload (q := 67) rfl rfl rfl ?_
    refine R_imul (q := 68) rfl rfl ?_
    rw [pk_mul]
    refine R_iaload (q := 69) rfl rfl md_107 (by decide) (by first | assumption | exact in_nI (by omega) (by decide)) ?_
    rw [cl_nI (by omega)]
    rw [hA0 _ (mi (k + 1)) (by omega), ← mk3.2.1]
    refine R_aload_n (q := 70) rfl rfl rfl ?_
    refine R_getf (q := 73) rfl rfl rfl md_73 rfl ?_
    refine R_iconst (q := 74) (v := nI 4) rfl rfl (by decide) ?_
    refine R_iload_n (q := 75) rfl rfl rfl ?_
    refine R_imul (q := 76) rfl rfl ?_
    rw [pk_mul]
    refine R_iaload (q := 77) rfl rfl md_107 (by decide) (by first | assumption | exact in_nI (by omega) (by decide)) ?_
    rw [cl_nI (by omega)]
    rw [hA0 _ (mi k) (by omega), ← mk.2.1]
    refine R_isub (q := 78) rfl rfl ?_
    refine R_istore (q := 80) rfl rfl (Nat.le_of_ble_eq_true rfl) rfl ?_
    dsimp only [List.set]
    refine R_aload_n (q := 81) rfl rfl rfl ?_
    refine R_getf (q := 84) rfl rfl rfl md_73 rfl ?_
    refine R_iconst (q := 85) (v := nI 4) rfl rfl (by decide) ?_
    refine R_iload (q := 87) rfl rfl rfl ?_
    refine R_imul (q := 88) rfl rfl ?_
    rw [pk_mul]
    refine R_iconst (q := 89) (v := nI 1) rfl rfl (by decide) ?_
    refine R_iadd (q := 90) rfl rfl ?_
    rw [nI_add]
    refine R_iaload (q := 91) rfl rfl md_107 (by decide) (by first | assumption | exact in_nI (by omega) (by decide)) ?_
    rw [cl_nI (by omega)]
    rw [hA' _ (mi (k + 1)) 1 (by omega) (by decide), ← mk3.2.2]
    refine R_aload_n (q := 92) rfl rfl rfl ?_
    refine R_getf (q := 95) rfl rfl rfl md_73 rfl ?_
    refine R_iconst (q := 96) (v := nI 4) rfl rfl (by decide) ?_
    refine R_iload_n (q := 97) rfl rfl rfl ?_
    refine R_imul (q := 98) rfl rfl ?_
    rw [pk_mul]
    refine R_iconst (q := 99) (v := nI 1) rfl rfl (by decide) ?_
    refine R_iadd (q := 100) rfl rfl ?_
    rw [nI_add]
    refine R_iaload (q := 101) rfl rfl md_107 (by decide) (by first | assumption | exact in_nI (by omega) (by decide)) ?_
    rw [cl_nI (by omega)]
    rw [hA' _ (mi k) 1 (by omega) (by decide), ← mk.2.2]
    refine R_isub (q := 102) rfl rfl ?_
    refine R_istore (q := 104) rfl rfl (Nat.le_of_ble_eq_true rfl) rfl ?_
    dsimp only [List.set]
    refine R_iload_n (q := 105) rfl rfl rfl ?_
    refine R_istore (q := 107) rfl rfl (Nat.le_of_ble_eq_true rfl) rfl ?_
    dsimp only [List.set]
    refine R_iconst (q := 108) (v := nI 1) rfl rfl (by decide) ?_
    refine R_istore (q := 110) rfl rfl (Nat.le_of_ble_eq_true rfl) rfl ?_
    dsimp only [List.set]
    have hlq := hlp (m - (k + 1)) (k + 1) (by omega) (by omega)
    rw [show k + 1 - k = 1 by omega, show k + 1 - 1 = k by omega] at hlq
    refine hlq ?_
    show mm_R S (d + 1) 192 193 [some (.ref 73), some (.int (nI (mi k))), some (.int (nI w)), some (.int (nI h)), some (.int (nI (mi (lend X Y m k)))), some (.int (nI (t + 2))), some (.int (X (k + 1) - X k)), some (.int (Y (k + 1) - Y k)), some (.int (nI (mi (lend X Y m k - 1)))), some (.int (nI (lend X Y m k - k)))] [] (mdm M (upa A 110 (upd (upd (upd F t (X k)) (t + 1) (Y k)) (t + 2) (nI 1))) (upd I 50 (nI (t + 3)))) _
    refine R_aload_n (q := 194) rfl rfl rfl ?_
    refine R_getf (q := 197) rfl rfl rfl md_73 rfl ?_
    refine R_iload (q := 199) rfl rfl rfl ?_
    refine R_iload (q := 201) rfl rfl rfl ?_
    refine R_iastore (q := 202) rfl rfl md_110 (by first | assumption | exact in_nI (by omega) (by decide)) ?_
    rw [cl_nI (by omega)]
    rw [md_p110]
    rw [upa_u, upa_e, upd_uu]
    refine R_aload_n (q := 203) rfl rfl rfl ?_
    refine R_iload (q := 205) rfl rfl rfl ?_
    refine R_callv1 (q := 208) rfl rfl rfl rfl md_73 (Nat.le_of_ble_eq_true rfl) rfl ?_
    refine R_mono (m190 (t := t + 3) (by omega)) (fun v205 M205 hr205 => ?_)
    obtain ⟨rfl, hm205⟩ := hr205
    rw [hm205]
    dsimp only [Option.toList, List.cons_append, List.nil_append]
    refine R_aload_n (q := 209) rfl rfl rfl ?_
    refine R_iload (q := 211) rfl rfl rfl ?_
    refine R_callv1 (q := 214) rfl rfl rfl rfl md_73 (Nat.le_of_ble_eq_true rfl) rfl ?_
    refine R_mono (m190 (t := t + 4) (by omega)) (fun v211 M211 hr211 => ?_)
    obtain ⟨rfl, hm211⟩ := hr211
    rw [hm211]
    dsimp only [Option.toList, List.cons_append, List.nil_append]
    refine R_iload (q := 216) rfl rfl rfl ?_
    refine R_ireturn rfl rfl ?_
    refine ⟨rfl, ?_⟩
    unfold lnF lnT
    rw [if_pos (by omega), if_pos (by omega)]
  · refine R_iload (q := 59) rfl rfl rfl ?_
    refine R_ireturn rfl rfl ?_
    have hne : ¬ k + 1 < m := fun z => by
      have z1 := (hm (k + 1) z).1
      have z2 := nI_inj (by omega) (by omega) h54
      omega
    have le1 : lend X Y m k = k + 1 := by omega
    rw [le1, show k + 1 - k = 1 by omega]
    unfold lnF lnT
    rw [if_neg (by decide), if_neg (by decide)]
    exact ⟨rfl, rfl⟩
set_option maxRecDepth 8000 in
theorem m193_ln {n m g w h a0 T0 L0 : Nat} {q : Nat → Nat → Nat} {mi : Nat → Nat} {X Y : Nat → Int32} {Wd : Nat × ES} {P : Option Value → mm_M → Prop} (hn : n ≤ 256) (hI : I 44 = nI n) (hA : ∀ i f, i < n → f < 4 → A 107 (4 * i + f) = nI (q i f)) (hq : ∀ i f, i < n → f < 4 → q i f < 100) (hw : w < 100) (hh : h < 100) (hm : ∀ k, k < m → mi k < n ∧ X k = nI (q (mi k) 0) ∧ Y k = nI (q (mi k) 1)) (hmm : mi m = n) (hnx : ∀ k, k < m → nxt (mtc q w h) (n - (mi k + 1)) (mi k + 1) = mi (k + 1)) (hx : ∀ i, i < n → q i 0 < 16 ∧ q i 1 < 16) (hT0 : T0 ≤ 1590) (K : ∀ (F : Nat → Int32) (t : Nat) (t4 t5 : Option Value), ER Wd.2 t F → t ≤ T0 → mm_R S (d + 2) 193 100 [some (.ref 73), some (.int (nI g)), some (.int (nI w)), some (.int (nI h)), t4, t5] [] (mdm M (upa A 110 F) (upd I 50 (nI t))) P) : ∀ (j k c t : Nat) (F : Nat → Int32) (s : ES), m - k ≤ j → k ≤ m → Wd = wgl X Y m (m - k) k (k, s) → L0 = (cln X Y m (m - k) k (k, c)).2 → ER s t (upd F a0 (nI L0)) → F a0 = nI c → a0 < t → t + 3 * (m - k) ≤ T0 → c ≤ k → mm_R S (d + 2) 193 67 [some (.ref 73), some (.int (nI g)), some (.int (nI w)), some (.int (nI h)), some (.int (nI (mi k))), some (.int (nI a0))] [] (mdm M (upa A 110 F) (upd I 50 (nI t))) P := by
  intro j
  have hI' : ∀ T, upd I 50 T 44 = nI n := fun T => (upd_n (by decide)).trans hI
  have hend : ∀ (k c t : Nat) (F : Nat → Int32) (s : ES), k = m → Wd = wgl X Y m (m - k) k (k, s) → L0 = (cln X Y m (m - k) k (k, c)).2 → ER s t (upd F a0 (nI L0)) → F a0 = nI c → t ≤ T0 → mm_R S (d + 2) 193 67 [some (.ref 73), some (.int (nI g)), some (.int (nI w)), some (.int (nI h)), some (.int (nI (mi k))), some (.int (nI a0))] [] (mdm M (upa A 110 F) (upd I 50 (nI t))) P := by
    intro k c t F s hkm hW hL hE hF ht
    rw [hkm, Nat.sub_self] at hW hL
    have hW : Wd = (m, s) := hW
    have hL : L0 = c := hL
    rw [upd_sf (by rw [hL]; exact hF)] at hE
    have hkn : mi k = n := by rw [hkm]; exact hmm
    refine R_iload (q := 69) rfl rfl rfl ?_
    refine R_aload_n (q := 70) rfl rfl rfl ?_
    refine R_getf (q := 73) rfl rfl rfl md_73 rfl ?_
    rw [hI']
    refine R_icmp_ge (q := 76) (t := 100) rfl rfl rfl (fun h73 => ?_) (fun h73 => absurd (nI_le (by omega) (by omega)) h73)
    exact K F t _ _ (by rw [hW]; exact hE) ht
  induction j with
  | zero => intro k c t F s h1 h2 hW hL hE hF ha ht hc; exact hend k c t F s (by omega) hW hL hE hF (by omega)
  | succ j ih =>
    intro k c t F s h1 h2 hW hL hE hF ha ht hc
    by_cases hk : k < m
    case neg => exact hend k c t F s (by omega) hW hL hE hF (by omega)
    case pos =>
      have mk := (hm k hk).1
      have hl := lend_le (X := X) (Y := Y) hk
      rw [wgl_st hk] at hW
      rw [cln_st hk] at hL
      refine R_iload (q := 69) rfl rfl rfl ?_
      refine R_aload_n (q := 70) rfl rfl rfl ?_
      refine R_getf (q := 73) rfl rfl rfl md_73 rfl ?_
      rw [hI']
      refine R_icmp_ge (q := 76) (t := 100) rfl rfl rfl (fun h73 => absurd h73 (nI_ge (by omega) (by omega))) (fun h73 => ?_)
      refine R_aload_n (q := 77) rfl rfl rfl ?_
      refine R_iload (q := 79) rfl rfl rfl ?_
      refine R_iload_n (q := 80) rfl rfl rfl ?_
      refine R_iload_n (q := 81) rfl rfl rfl ?_
      refine R_callv3 (q := 84) rfl rfl rfl rfl md_73 (Nat.le_of_ble_eq_true rfl) rfl ?_
      refine R_mono (m192 hn hI hA hq hw hh hm hmm hnx hk (by omega) hx) (fun v81 M81 hr81 => ?_)
      obtain ⟨rfl, hm81⟩ := hr81
      rw [hm81]
      dsimp only [Option.toList, List.cons_append, List.nil_append]
      refine R_istore (q := 86) rfl rfl (Nat.le_of_ble_eq_true rfl) rfl ?_
      dsimp only [List.set]
      refine R_aload_n (q := 87) rfl rfl rfl ?_
      refine R_getf (q := 90) rfl rfl rfl md_73 rfl ?_
      refine R_iload (q := 92) rfl rfl rfl ?_
      refine R_dup2 (q := 93) rfl rfl ?_
      
      refine R_iaload (q := 94) rfl rfl md_110 (by decide) (by first | assumption | exact in_nI (by omega) (by decide)) ?_
      rw [cl_nI (by omega)]
      rw [upa_e, lnF_o ha, hF]
      refine R_iconst (q := 95) (v := nI 1) rfl rfl (by decide) ?_
      refine R_iadd (q := 96) rfl rfl ?_
      rw [nI_add]
      refine R_iastore (q := 97) rfl rfl md_110 (by first | assumption | exact in_nI (by omega) (by decide)) ?_
      rw [cl_nI (by omega)]
      rw [md_p110]
      rw [upa_u, upa_e]
      refine R_goto (t := 67) rfl rfl ?_
      refine ih (lend X Y m k) (c + 1) _ _ _ (by omega) hl.2 hW hL ?_ upd_e ?_ ?_ (by omega)
      · rw [upd_uu, ← lnF_cm ha]
        exact ER_wln hE
      · unfold lnT
        split <;> omega
      · unfold lnT
        split <;> omega
theorem nxt_min {g : Nat → Bool} : ∀ j i a, i ≤ a → a < i + j → g a = true → nxt g j i ≤ a := by
  intro j
  induction j with
  | zero => intro i a h1 h2; omega
  | succ j ih =>
    intro i a h1 h2 h3
    by_cases hg : g i = true
    · have e : nxt g (j + 1) i = i := if_pos hg
      rw [e]; exact h1
    · have e : nxt g (j + 1) i = nxt g j (i + 1) := if_neg hg
      rw [e]
      have : ¬ i = a := fun z => hg (by rw [z]; exact h3)
      exact ih (i + 1) a (by omega) (by omega) h3
set_option maxRecDepth 8000 in
theorem m193_g {n : Nat} {p : Nat → Int32} {q : Nat → Nat → Nat} {Z : Int32 × ES × GS} {P : Option Value → mm_M → Prop} (hn : n ≤ 256) (hI : I 44 = nI n) (hA : ∀ i f, i < n → f < 4 → A 107 (4 * i + f) = nI (q i f)) (hQ : QV n p q) (K : ∀ (F : Nat → Int32) (t : Nat) (s : ES) (t1 t2 t3 t4 t5 : Option Value), ER s t F → Z.2.1 = s → t ≤ 1536 → mm_R S (d + 2) 193 106 [some (.ref 73), t1, t2, t3, t4, t5] [] (mdm M (upa A 110 F) (upd I 50 (nI t))) P) : ∀ (j g jj t : Nat) (F : Nat → Int32) (C : Int32) (s : ES) (gs : GS) (t2 t3 t4 t5 : Option Value), g + j = 256 → 256 ≤ jj + g → Z = drl n p jj (C, s, gs) → NXK n q g C → ER s t F → t ≤ 6 * cnr (fun i => decide (key q i < g)) n 0 → mm_R S (d + 2) 193 7 [some (.ref 73), some (.int (nI g)), t2, t3, t4, t5] [] (mdm M (upa A 110 F) (upd I 50 (nI t))) P := by
  have hx : ∀ i, i < n → q i 0 < 16 ∧ q i 1 < 16 := fun i hi => (hQ.2.2 i hi).1
  have hq : ∀ i f, i < n → f < 4 → q i f < 100 := by
    intro i f hi hf
    have := hQ.2.2 i hi
    have hff : f = 0 ∨ f = 1 ∨ f = 2 ∨ f = 3 := by omega
    rcases hff with rfl | rfl | rfl | rfl <;> omega
  have hI' : ∀ T, upd I 50 T 44 = nI n := fun T => (upd_n (by decide)).trans hI
  intro j
  induction j with
  | zero =>
    intro g jj t F C s gs t2 t3 t4 t5 hg hjj hZ hN hE ht
    have hZs : Z.2.1 = s := by
      have hC : C = nI 0 := by
        rcases hN with ⟨z, -⟩ | ⟨b, hb1, hb2, -⟩
        · exact z
        · have := (kdn_key hQ hb1).2; omega
      rw [hZ, hC]
      cases jj with
      | zero => rfl
      | succ jj => unfold drl; rw [if_neg (show ¬ (0 : Int32) < nI 0 by decide)]
    have hcb := cnr_le (g := fun i => decide (key q i < g)) n 0
    refine R_iload_n (q := 8) rfl rfl rfl ?_
    refine R_sipush (q := 11) (v := nI 256) rfl rfl (by decide) ?_
    refine R_icmp_ge (q := 14) (t := 106) rfl rfl rfl (fun h11 => ?_) (fun h11 => absurd (nI_le (by omega) (by omega)) h11)
    exact K F t s _ _ _ _ _ hE hZs (by omega)
  | succ j ih =>
    intro g jj t F C s gs t2 t3 t4 t5 hg hjj hZ hN hE ht
    have hg6 : g < 256 := by omega
    have hcb := cnr_le (g := fun i => decide (key q i < g + 1)) n 0
    have hca : cnr (fun i => decide (key q i < g + 1)) n 0 = cnr (fun i => decide (key q i < g)) n 0 + cnr (mtc q (g / 16 + 1) (g % 16 + 1)) n 0 := by
      refine cnr_add n 0 (fun k _ hk => ?_)
      rw [mtc_key hQ (by omega) hg6, decide_eq_true_iff, decide_eq_true_iff]
      omega
    have h100 : ∀ (jj t : Nat) (F : Nat → Int32) (C : Int32) (s : ES) (gs : GS) (t2 t3 t4 t5 : Option Value), 256 ≤ jj + (g + 1) → Z = drl n p jj (C, s, gs) → NXK n q (g + 1) C → ER s t F → t ≤ 6 * cnr (fun i => decide (key q i < g + 1)) n 0 → mm_R S (d + 2) 193 100 [some (.ref 73), some (.int (nI g)), t2, t3, t4, t5] [] (mdm M (upa A 110 F) (upd I 50 (nI t))) P := by
      intro jj t F C s gs t2 t3 t4 t5 h1 h2 h3 h4 h5
      refine R_iinc (q := 103) rfl rfl rfl (nI_i1 g) rfl ?_
      dsimp only [List.set]
      refine R_goto (t := 7) rfl rfl ?_
      exact ih (g + 1) jj t F C s gs _ _ _ _ (by omega) h1 h2 h3 h4 h5
    refine R_iload_n (q := 8) rfl rfl rfl ?_
    refine R_sipush (q := 11) (v := nI 256) rfl rfl (by decide) ?_
    refine R_icmp_ge (q := 14) (t := 106) rfl rfl rfl (fun h11 => absurd h11 (nI_ge (by omega) (by omega))) (fun h11 => ?_)
    refine R_iload_n (q := 15) rfl rfl rfl ?_
    refine R_bipush (q := 17) (v := nI 16) rfl rfl (by decide) ?_
    refine R_idiv (q := 18) rfl rfl (by decide) ?_
    rw [pk_div (by omega) (by omega) (by omega)]
    refine R_iconst (q := 19) (v := nI 1) rfl rfl (by decide) ?_
    refine R_iadd (q := 20) rfl rfl ?_
    rw [nI_add]
    refine R_istore_n (q := 21) rfl rfl (Nat.le_of_ble_eq_true rfl) rfl ?_
    dsimp only [List.set]
    refine R_iload_n (q := 22) rfl rfl rfl ?_
    refine R_bipush (q := 24) (v := nI 16) rfl rfl (by decide) ?_
    refine R_irem (q := 25) rfl rfl (by decide) ?_
    rw [pk_rem (by omega) (by omega) (by omega)]
    refine R_iconst (q := 26) (v := nI 1) rfl rfl (by decide) ?_
    refine R_iadd (q := 27) rfl rfl ?_
    rw [nI_add]
    refine R_istore_n (q := 28) rfl rfl (Nat.le_of_ble_eq_true rfl) rfl ?_
    dsimp only [List.set]
    refine R_aload_n (q := 29) rfl rfl rfl ?_
    refine R_iconst (q := 30) (v := nI 0) rfl rfl (by decide) ?_
    refine R_iload_n (q := 31) rfl rfl rfl ?_
    refine R_iload_n (q := 32) rfl rfl rfl ?_
    refine R_callv3 (q := 35) rfl rfl rfl rfl md_73 (Nat.le_of_ble_eq_true rfl) rfl ?_
    refine R_mono (m191 (i := 0) hn hI hA hq (by omega) (by omega) (by omega)) (fun v32 M32 hr32 => ?_)
    obtain ⟨rfl, hm32⟩ := hr32
    rw [hm32]
    dsimp only [Option.toList, List.cons_append, List.nil_append]
    refine R_istore (q := 37) rfl rfl (Nat.le_of_ble_eq_true rfl) rfl ?_
    dsimp only [List.set]
    refine R_iload (q := 39) rfl rfl rfl ?_
    refine R_aload_n (q := 40) rfl rfl rfl ?_
    refine R_getf (q := 43) rfl rfl rfl md_73 rfl ?_
    rw [hI']
    refine R_icmp_ge (q := 46) (t := 100) rfl rfl rfl (fun h43 => ?_) (fun h43 => ?_)
    · refine h100 jj t F C s gs _ _ _ _ (by omega) hZ (NXK_no hN (fun a ha z => ?_)) hE (by omega)
      have z1 := nI_ge_of (by have := (nxt_ge (g := mtc q (g / 16 + 1) (g % 16 + 1)) (n - 0) 0).2; omega) (by omega) h43
      exact z1 (Nat.lt_of_le_of_lt (nxt_min (n - 0) 0 a (by omega) (by omega) ((mtc_key hQ ha hg6).mpr z)) ha)
    · have hnb := (nxt_ge (g := mtc q (g / 16 + 1) (g % 16 + 1)) (n - 0) 0).2
      have gm := gat_mem hQ hg6 gs.2
      have hC : C = nI (kk g) := by
        have z1 := nxt_hit (g := mtc q (g / 16 + 1) (g % 16 + 1)) (n - 0) 0 (by have := nI_lt_of (by omega) h43; omega)
        exact NXK_yes hN (nI_lt_of (by omega) h43) ((mtc_key hQ (nI_lt_of (by omega) h43) hg6).mp z1)
      have hjj1 : jj = (jj - 1) + 1 := by omega
      have hZ2 : Z = drl n p (jj - 1) (kaf n p (nI (kk g)), wgr n p (nI (kk g)) (s, gs)) := by
        rw [hZ, hjj1, hC]
        show (if 0 < nI (kk g) then drl n p (jj - 1) (kaf n p (nI (kk g)), wgr n p (nI (kk g)) (s, gs)) else _) = _
        rw [if_pos (by rw [i_lt, i_0, i_n _ (by unfold kk; omega)]; unfold kk; omega)]
        rfl
      obtain ⟨G, hG⟩ : ∃ G, G = gat n p (nI (kk g)) n 0 (0, gs.2) := ⟨_, rfl⟩
      rw [← hG] at gm
      have hwgr : wgr n p (nI (kk g)) (s, gs) = ((wgl G.2.1 G.2.2 G.1 G.1 0 (0, wghd (nI (kk g)) (cln G.2.1 G.2.2 G.1 G.1 0 (0, 0)).2 s)).2, G) := by rw [hG]; rfl
      rw [hwgr] at hZ2
      obtain ⟨gm1, gm2, gm3⟩ := gm
      have hmi0 : itx (mtc q (g / 16 + 1) (g % 16 + 1)) n 0 0 = nxt (mtc q (g / 16 + 1) (g % 16 + 1)) (n - 0) 0 := rfl
      rw [← hmi0]
      have hG1 : 1 ≤ G.1 := by
        by_cases z : 1 ≤ G.1
        · exact z
        · rw [show G.1 = 0 by omega] at gm3
          have := nI_lt_of (by omega) h43
          rw [← hmi0] at this
          omega
      have ht5 : t + 3 + 3 * G.1 ≤ 6 * cnr (fun i => decide (key q i < g + 1)) n 0 := by omega
      refine R_aload_n (q := 47) rfl rfl rfl ?_
      refine R_iload_n (q := 48) rfl rfl rfl ?_
      refine R_callv1 (q := 51) rfl rfl rfl rfl md_73 (Nat.le_of_ble_eq_true rfl) rfl ?_
      refine R_mono (m190 (t := t) (by omega)) (fun v48 M48 hr48 => ?_)
      obtain ⟨rfl, hm48⟩ := hr48
      rw [hm48]
      dsimp only [Option.toList, List.cons_append, List.nil_append]
      rw [n255 _ (by omega)]
      refine R_aload_n (q := 52) rfl rfl rfl ?_
      refine R_iload_n (q := 53) rfl rfl rfl ?_
      refine R_callv1 (q := 56) rfl rfl rfl rfl md_73 (Nat.le_of_ble_eq_true rfl) rfl ?_
      refine R_mono (m190 (t := t + 1) (by omega)) (fun v53 M53 hr53 => ?_)
      obtain ⟨rfl, hm53⟩ := hr53
      rw [hm53]
      dsimp only [Option.toList, List.cons_append, List.nil_append]
      rw [n255 _ (by omega)]
      refine R_aload_n (q := 57) rfl rfl rfl ?_
      refine R_getf (q := 60) rfl rfl rfl md_73 rfl ?_
      rw [upd_e]
      refine R_istore (q := 62) rfl rfl (Nat.le_of_ble_eq_true rfl) rfl ?_
      dsimp only [List.set]
      refine R_aload_n (q := 63) rfl rfl rfl ?_
      refine R_iconst (q := 64) (v := nI 0) rfl rfl (by decide) ?_
      refine R_callv1 (q := 67) rfl rfl rfl rfl md_73 (Nat.le_of_ble_eq_true rfl) rfl ?_
      refine R_mono (m190 (t := t + 2) (by omega)) (fun v64 M64 hr64 => ?_)
      obtain ⟨rfl, hm64⟩ := hr64
      rw [hm64]
      dsimp only [Option.toList, List.cons_append, List.nil_append]
      rw [n255 _ (by decide)]
      refine m193_ln (a0 := t + 2) (T0 := 6 * cnr (fun i => decide (key q i < g + 1)) n 0) (L0 := (cln G.2.1 G.2.2 G.1 G.1 0 (0, 0)).2) (Wd := wgl G.2.1 G.2.2 G.1 G.1 0 (0, wghd (nI (kk g)) (cln G.2.1 G.2.2 G.1 G.1 0 (0, 0)).2 s)) (m := G.1) (X := G.2.1) (Y := G.2.2) (mi := itx (mtc q (g / 16 + 1) (g % 16 + 1)) n 0) hn hI hA hq (by omega) (by omega) gm2 gm3 (fun k hk => rfl) hx (by have := hQ.1; omega) (fun F' t' t4 t5 hE' ht' => h100 (jj - 1) t' F' (kaf n p (nI (kk g))) _ G _ _ _ _ (by omega) hZ2 (NXK_s hQ hg6) hE' ht') G.1 0 0 _ _ (wghd (nI (kk g)) (cln G.2.1 G.2.2 G.1 G.1 0 (0, 0)).2 s) (by omega) (by omega) rfl rfl ?_ upd_e (by omega) (by have : 1 ≤ G.1 := hG1; omega) (by omega)
      rw [upd_uu]
      unfold wghd
      rw [(kk_div hg6).2, (kk_div hg6).1]
      exact ER_em (ER_em (ER_em hE))
set_option maxRecDepth 8000 in
theorem m193 {X : ES} (hV : VS sh o l pi fa tp) (h : MRl A I sh o l pi fa tp) (hP : PV pi) (hX : WRT pi X) : mm_R S (d + 2) 193 0 (mm_en 193 [.ref 73]) [] (mdm M A I) (fun v M' => FM (mdm M A I) M' ∧ (X.2 = true ∧ v = some (.int (nI X.1.1)) ∧ MI M' sh o l pi fa (X.1.1, ifl X.1.2 tp.2 X.1.1) ∨ X.2 = false ∧ v = some (.int (-1000)) ∧ MI M' sh o l pi fa tp)) := by
  show mm_R S (d + 2) 193 0 [some (.ref 73), none, none, none, none, none] [] (mdm M A I) _
  obtain ⟨r1, r2, r3, r4, ⟨r5a, r5b⟩, r6, ⟨r7a, r7b⟩, r8⟩ := id h
  have hQ := PV_QV hP
  have hA : ∀ i f, i < pi.1 → f < 4 → A 107 (4 * i + f) = nI (pv pi i f) := fun i f hi hf => (r5b i f hi hf).trans (hQ.2.1 i f hi hf)
  obtain ⟨ob, g0, rfl⟩ := hX
  obtain ⟨Z, hZ⟩ : ∃ Z, Z = drl pi.1 pi.2 256 (kaf pi.1 pi.2 (nI 0), ((0, ob), true), g0) := ⟨_, rfl⟩
  have hdrf : (drf pi.1 pi.2 ob g0).1 = em Z.2.1 (nI 0) := by rw [hZ]; rfl
  rw [hdrf]
  have hcp : ∀ (F B : Nat → Int32) (t : Nat) (X : ES) (t2 t3 t4 t5 : Option Value), ER X t F → t ≤ 400 → ∀ j i, i + j = t → mm_R S (d + 2) 193 127 [some (.ref 73), some (.int (nI i)), t2, t3, t4, t5] [] (mdm M (upa (upa A 110 F) 109 (ifl F (A 109) i)) (upd I 50 (nI t))) (fun v M' => FM (mdm M A I) M' ∧ (X.2 = true ∧ v = some (.int (nI X.1.1)) ∧ MI M' sh o l pi fa (X.1.1, ifl X.1.2 tp.2 X.1.1) ∨ X.2 = false ∧ v = some (.int (-1000)) ∧ MI M' sh o l pi fa tp)) := by
    intro F B t X t2 t3 t4 t5 hE ht j
    induction j with
    | zero =>
      intro i hi
      have hii : i = t := by omega
      subst hii
      have hX1 : X.1.1 = i := by rw [hE.1]; omega
      have hX2 : X.2 = true := by rw [hE.2.1]; exact decide_eq_true ht
      refine R_iload_n (q := 128) rfl rfl rfl ?_
      refine R_aload_n (q := 129) rfl rfl rfl ?_
      refine R_getf (q := 132) rfl rfl rfl md_73 rfl ?_
      rw [upd_e]
      refine R_icmp_ge (q := 135) (t := 153) rfl rfl rfl (fun h132 => ?_) (fun h132 => absurd (nI_le (by omega) (by omega)) h132)
      refine R_aload_n (q := 154) rfl rfl rfl ?_
      refine R_aload_n (q := 155) rfl rfl rfl ?_
      refine R_getf (q := 158) rfl rfl rfl md_73 rfl ?_
      rw [upd_e]
      refine R_putf (q := 161) rfl rfl rfl md_73 (Nat.le_of_ble_eq_true rfl) rfl (fun hf => absurd hf (by decide)) rfl ?_
      dsimp only [List.set]
      rw [md_f48]
      refine R_aload_n (q := 162) rfl rfl rfl ?_
      refine R_getf (q := 165) rfl rfl rfl md_73 rfl ?_
      rw [upd_e]
      refine R_ireturn rfl rfl ?_
      refine ⟨FM_md, Or.inl ⟨hX2, by rw [hX1], MI_md ⟨r1, r2, r3, r4, ⟨r5a, r5b⟩, r6, ⟨by rw [hX1]; rfl, fun k hk => ?_⟩, r8⟩⟩⟩
      have hk : k < X.1.1 := hk
      show ifl F (A 109) i k = ifl X.1.2 tp.2 X.1.1 k
      rw [ifl_lt hk, ifl_lt (by omega), hE.2.2 k (by omega)]
    | succ j ih =>
      intro i hi
      refine R_iload_n (q := 128) rfl rfl rfl ?_
      refine R_aload_n (q := 129) rfl rfl rfl ?_
      refine R_getf (q := 132) rfl rfl rfl md_73 rfl ?_
      rw [upd_e]
      refine R_icmp_ge (q := 135) (t := 153) rfl rfl rfl (fun h132 => absurd h132 (nI_ge (by omega) (by omega))) (fun h132 => ?_)
      refine R_aload_n (q := 136) rfl rfl rfl ?_
      refine R_getf (q := 139) rfl rfl rfl md_73 rfl ?_
      refine R_iload_n (q := 140) rfl rfl rfl ?_
      refine R_aload_n (q := 141) rfl rfl rfl ?_
      refine R_getf (q := 144) rfl rfl rfl md_73 rfl ?_
      refine R_iload_n (q := 145) rfl rfl rfl ?_
      refine R_iaload (q := 146) rfl rfl md_110 (by decide) (by first | assumption | exact in_nI (by omega) (by decide)) ?_
      rw [cl_nI (by omega)]
      rw [upa_n (by decide), upa_e]
      refine R_iastore (q := 147) rfl rfl md_109 (by first | assumption | exact in_nI (by omega) (by decide)) ?_
      rw [cl_nI (by omega)]
      rw [md_p109]
      rw [upa_u, upa_e, ifl_s (n := F)]
      refine R_iinc (q := 150) rfl rfl rfl (nI_i1 i) rfl ?_
      dsimp only [List.set]
      refine R_goto (t := 127) rfl rfl ?_
      exact ih (i + 1) (by omega)
  have h106 : ∀ (F : Nat → Int32) (t : Nat) (s : ES) (t1 t2 t3 t4 t5 : Option Value), ER s t F → Z.2.1 = s → t ≤ 1536 → mm_R S (d + 2) 193 106 [some (.ref 73), t1, t2, t3, t4, t5] [] (mdm M (upa A 110 F) (upd I 50 (nI t))) (fun v M' => FM (mdm M A I) M' ∧ ((em Z.2.1 (nI 0)).2 = true ∧ v = some (.int (nI (em Z.2.1 (nI 0)).1.1)) ∧ MI M' sh o l pi fa ((em Z.2.1 (nI 0)).1.1, ifl (em Z.2.1 (nI 0)).1.2 tp.2 (em Z.2.1 (nI 0)).1.1) ∨ (em Z.2.1 (nI 0)).2 = false ∧ v = some (.int (-1000)) ∧ MI M' sh o l pi fa tp)) := by
    intro F t s t1 t2 t3 t4 t5 hE hZs ht
    rw [hZs]
    have hE2 := ER_em (x := nI 0) hE
    refine R_aload_n (q := 107) rfl rfl rfl ?_
    refine R_iconst (q := 108) (v := nI 0) rfl rfl (by decide) ?_
    refine R_callv1 (q := 111) rfl rfl rfl rfl md_73 (Nat.le_of_ble_eq_true rfl) rfl ?_
    refine R_mono (m190 (t := t) (by omega)) (fun v108 M108 hr108 => ?_)
    obtain ⟨rfl, hm108⟩ := hr108
    rw [hm108]
    dsimp only [Option.toList, List.cons_append, List.nil_append]
    rw [n255 _ (by decide)]
    refine R_aload_n (q := 112) rfl rfl rfl ?_
    refine R_getf (q := 115) rfl rfl rfl md_73 rfl ?_
    rw [upd_e]
    refine R_sipush (q := 118) (v := nI 400) rfl rfl (by decide) ?_
    refine R_icmp_le (q := 121) (t := 125) rfl rfl rfl (fun h118 => ?_) (fun h118 => ?_)
    · refine R_iconst (q := 126) (v := nI 0) rfl rfl (by decide) ?_
      refine R_istore_n (q := 127) rfl rfl (Nat.le_of_ble_eq_true rfl) rfl ?_
      dsimp only [List.set]
      have h0 := hcp (upd F t (nI 0)) (A 109) (t + 1) (em s (nI 0)) t2 t3 t4 t5 hE2 (by rw [i_le, i_n _ (by omega), ik_400] at h118; omega) (t + 1) 0 (by omega)
      rw [ifl_0, show A 109 = upa A 110 (upd F t (nI 0)) 109 from rfl, upa_s] at h0
      exact h0
    · refine R_sipush (q := 124) (v := (-1000)) rfl rfl (by decide) ?_
      refine R_ireturn rfl rfl ?_
      refine ⟨FM_md, Or.inr ⟨?_, rfl, MI_md ⟨r1, r2, r3, r4, ⟨r5a, r5b⟩, r6, ⟨r7a, r7b⟩, r8⟩⟩⟩
      rw [hE2.2.1]
      exact decide_eq_false (fun z => h118 (nI_le z (by omega)))
  refine R_aload_n (q := 1) rfl rfl rfl ?_
  refine R_iconst (q := 2) (v := nI 0) rfl rfl (by decide) ?_
  refine R_putf (q := 5) rfl rfl rfl md_73 (Nat.le_of_ble_eq_true rfl) rfl (fun hf => absurd hf (by decide)) rfl ?_
  dsimp only [List.set]
  rw [md_f50]
  refine R_iconst (q := 6) (v := nI 0) rfl rfl (by decide) ?_
  refine R_istore_n (q := 7) rfl rfl (Nat.le_of_ble_eq_true rfl) rfl ?_
  dsimp only [List.set]
  have h0 := m193_g (S := S) (d := d) (M := M) (A := A) (I := I) (Z := Z) hQ.1 r5a hA hQ h106 256 0 256 0 (A 110) (kaf pi.1 pi.2 (nI 0)) ((0, ob), true) g0 none none none none (by omega) (by omega) hZ (NXK_0 hQ) ⟨rfl, rfl, fun i hi => absurd hi (by omega)⟩ (Nat.zero_le _)
  rw [upa_s] at h0
  exact h0
end P52
